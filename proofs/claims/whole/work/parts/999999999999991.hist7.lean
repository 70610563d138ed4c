/-! follow, both sides -/
/-- a contract of the hall whose answer and world are as REL says -/
def HC (l : Launch) (E : cE) (y : MethodName) (bytes : ByteArray) (maxL : Nat) (ret : Option FieldType) (rm : Room) (av : List Value) (ws : va_W) (REL : Int32 → va_W → Prop) : Prop := ∃ (S : Type) (post : Int32 → S → Prop) (w' : S → va_W), cM l E y bytes maxL ret rm av ws (qI E post w') ∧ ∀ v u, post v u → REL v (w' u)
/-- the answer x, and all that holds between two calls -/
def HRL (n c : Nat) (E : cE) (r : Nat → Nat) (m9 : St) (x : Int) (v : Int32) (ws : va_W) : Prop := v = Int32.ofInt x ∧ ∃ (r2 : Nat → Nat) (t2 μ2 : St) (B2 : Nat) (len2 : Nat → Nat), ws = gW E r2 shH t2 ++ exL E r2 B2 len2 μ2 ∧ (∀ id, id < 1000 → r2 id = r id) ∧ GR0 n c t2 m9 ∧ HISr n c t2 m9 μ2 B2 len2
section
variable {N n c : Nat} {t m μ : St} {B : Nat} {len : Nat → Nat}
theorem HC.sm {l : Launch} {E : cE} {y : MethodName} {bytes : ByteArray} {maxL : Nat} {ret : Option FieldType} {rm : Room} {av : List Value} {ws : va_W} {r : Nat → Nat} {x : Int} {t9 m9 : St} (hM : cM l E y bytes maxL ret rm av ws (qSm E r (exL E r B len μ) x t9)) (h : GR0 n c t9 m9) (hH : HISr n c t9 m9 μ B len) : HC l E y bytes maxL ret rm av ws (HRL n c E r m9 x) :=
  ⟨Unit, _, _, hM, fun v u hv => ⟨hv, r, t9, μ, B, len, rfl, fun _ _ => rfl, h, hH⟩⟩
theorem HC.dn {l : Launch} {E : cE} {y : MethodName} {bytes : ByteArray} {maxL : Nat} {ret : Option FieldType} {rm : Room} {av : List Value} {ws : va_W} {r : Nat → Nat} {x b st : Int} {z t9 m9 : St} {i : Nat} (hM : cM l E y bytes maxL ret rm av ws (qDn E r len μ z B i b st x t9)) (h : GR0 n c t9 m9) (hH : ∀ r2 : (Nat → Nat) × (Nat → Nat), NPo r len i z r2 → HISr n c t9 m9 (mU μ i z b st) (if i < B then B else B + 1) r2.2) : HC l E y bytes maxL ret rm av ws (HRL n c E r m9 x) :=
  ⟨(Nat → Nat) × (Nat → Nat), _, _, hM, fun v u hv => ⟨hv.1, u.1, t9, _, _, u.2, rfl, hv.2.1, h, hH u hv.2⟩⟩
theorem dn_no {a : Int} {s : Int64} {w v2 : St} (h1 : f_X12_reckons N a s m = some (0, w)) (h2 : f_X12_notes N w = some v2) : f_X12_dances N a s m = some (v2.1 200 70, v2) := by
  unfold f_X12_dances
  simp only [lt1_k]
  rw [h1, bdI_s, cmpI_ok (by omega), if_pos rfl, h2, bdV_s]
theorem dn_yes {a : Int} {s : Int64} {w m2 : St} (h1 : f_X12_reckons N a s m = some (1, w)) (h2 : f_X12_settles N w = some m2) : f_X12_dances N a s m = some (0, m2) := by
  unfold f_X12_dances
  simp only [lt1_k]
  rw [h1, bdI_s, cmpI_ok (by omega), if_neg (by decide), h2, bdV_s]
theorem q_follow (hN : 100000 ≤ N) (hc : c ≤ 600) (h : GR0 n c t m) (hH : HISr n c t m μ B len) (h57 : ∀ j, inR (m.1 57 j)) (h51 : inR (m.1 200 51)) : ∃ (x : Int) (m9 : St), f_X12_follow N m = some (x, m9) ∧ ∀ (l : Launch) (E : cE) (r : Nat → Nat), HC l E yX11_follow cX11_follow 3 (some .int) rm_follow [.ref (r 300)] (gW E r shH t ++ exL E r B len μ) (HRL n (c + 1) E r m9 x) := by
  have hb102 := h.2.2.2.2.2.b102
  have no : f_X9_chosenStep N (t.1 310 17) t = some (-1, t) → inR (m.1 200 101) → ¬ m.1 200 102 < m.1 200 101 → ∃ (x : Int) (m9 : St), f_X12_follow N m = some (x, m9) ∧ ∀ (l : Launch) (E : cE) (r : Nat → Nat), HC l E yX11_follow cX11_follow 3 (some .int) rm_follow [.ref (r 300)] (gW E r shH t ++ exL E r B len μ) (HRL n (c + 1) E r m9 x) := fun q1 q2 q3 => by
    refine ⟨-1, m, ?_, fun l E r => HC.sm (c_follow0 l E r N _ t (-1) q1 (by omega) (by omega)) h.up (hH.mv HKf.rf (by omega))⟩
    unfold f_X12_follow
    simp only [lt1_k]
    rw [cmpI_ok (by omega), if_neg q3]
  have ch0 : t.1 310 16 = 0 → f_X9_chosenStep N (t.1 310 17) t = some (-1, t) := fun g1 => by
    unfold f_X9_chosenStep
    simp only [lt1_k]
    rw [g1, cmpI_ok (by omega), if_pos rfl]
  rcases h.2.2.2.2.2 with h0 | ⟨L, S, w, a, Bq, f1, f2, ⟨f3, f4, f5⟩, f6, f7⟩
  · exact no (ch0 h0.2.1) (by omega) (by omega)
  · have hL := f1.1.1.1
    rcases f7 with f7 | ⟨c1, c2, c3, c4, c5, c6⟩
    · exact no (ch0 f7.1) (by omega) (by omega)
    · obtain ⟨q, hq⟩ : ∃ q : Nat, m.1 200 102 = q := ⟨(m.1 200 102).toNat, by omega⟩
      by_cases d1 : q < L
      · obtain ⟨e1, e2, e3⟩ := c6 q d1
        obtain ⟨x, hx⟩ : ∃ x : Nat, m.1 103 q = x := ⟨(m.1 103 q).toNat, by omega⟩
        have hch : f_X9_chosenStep N (t.1 310 17) t = some ((x : Int), t) := by
          unfold f_X9_chosenStep
          simp only [lt1_k]
          rw [c1, cmpI_ok (by omega), if_neg (by omega), c3, hq, cmpI_ok (by omega), if_neg (by omega), f3, cmpI_ok (by omega), if_pos (by omega), ixI_ok (by omega), Int.toNat_natCast, e1, hx]
        obtain ⟨i, hi⟩ : ∃ i : Nat, m.1 200 60 = i := ⟨(m.1 200 60).toNat, by have := hH.2.1; omega⟩
        obtain ⟨w0, k1, k2, k3, k4, k5⟩ := wr_go (N := N) (i := i) (by omega) h hH h57 h51 hi
        obtain ⟨⟨a9, c9, x1, x2, _, _, x5⟩, ⟨y1, y2, y3, y4⟩, y5, _⟩ := h.1.1.2.1
        obtain ⟨⟨t1, t2⟩, e9, t3, t4, t5, t6, t7, t8⟩ := h.2.2.2.2.1
        have w200 : w0.1 200 = m.1 200 := k2.1 200 (by omega)
        obtain ⟨aa, cc, ⟨q1, q2, q3⟩, u, w1, ⟨p1, p2, p3, p4, p5⟩, p6⟩ := al_both (N := N) (o := 0) (t := t) (m := w0) (n := n) (i := x) hN k4.1.1 k4.2.1.1.2 k4.2.1.1.1 (by rw [w200]; omega) t2 (by omega)
        have hev := k4.2.1.1.2.ev (N := N)
        have hmu : f_X12_follow N m = bdI (f_X12_dances N cc (evb n) w0) fun v10 t9 => cmpI v10 0 (if 0 < v10 then (some (v10, t9)) else (bdV (f_X12_keeps N t9) fun t11 => some (0, pI t11 200 102 (t11.1 200 102 + 1)))) := by
          unfold f_X12_follow
          simp only [lt1_k]
          rw [cmpI_ok (by omega), if_pos (by omega), k1, bdV_s, w200, hq, ixI_ok (by omega), Int.toNat_natCast, k2.1 103 (by omega), hx, ixI_ok (by omega), Int.toNat_natCast, q2, hev.2, bdL_s]
        have h361 : t.1 361 ((x : Int)).toNat = aa := by rw [Int.toNat_natCast]; exact q1
        rcases p6 with ⟨r, r1, r2, r3, r4⟩ | ⟨r1, r2, r3, r4⟩
        · obtain ⟨u2, v2, z1, z2, z3, z4, z5, z6, z7, z8, z9⟩ := q_note (N := N) (show inR r by omega) r4
          have hk := k4.k5 (u := u2) (v := v2) (p2.ch (fun x hx => z4 x (by omega)) (by rw [z6])) (p4.f (by rw [z4 304 (by decide)]) (z4 378 (by decide))) (by rw [z4 304 (by decide)]; exact p5) (fun x h1 h2 h3 h4 => by rw [z4 x h1, p1.1 x h2 h3 h4]) (fun b hb => by rw [z5 b (by omega), p1.1 300 (by decide) (by decide) (by decide)]) (fun x h1 h2 h3 h4 => by rw [z6, p1.2.2.2 x h1 h2 h3 h4]) (fun x h1 h2 h3 h4 => by rw [z7 x h4, p3.1 x (by omega) (by omega) (by omega) (by omega) (by omega) (by omega) (by omega) h2 h3 h4]) (fun b h1 h2 h3 h4 => by rw [z8 b (by omega), p3.2.1 b (by omega) (by omega) (by omega) (by omega) (by omega) (by omega) (by omega) (by omega) h3 h4]) (fun x h1 => by rw [z9, p3.2.2 x h1]) z3
          refine ⟨r, v2, ?_, fun l E r0 => HC.sm (c_follow1 l E r0 N _ t u u2 x r (evb n) hch (by omega) (by omega) (by omega) (by omega) (by omega) (by omega) hev.1 (by rw [h361]; exact r2) z1) hk.1 (k5.mv hk.2 (by omega))⟩
          rw [hmu, dn_no r3 z2, bdI_s, z8 70 (by omega), r4.2.1, cmpI_ok (by omega), if_pos (by omega)]
        · obtain ⟨z, t6', m2, t4', m4, b1, b2, b3, b4, b5, ⟨b6, b7, b8⟩, b9, b10⟩ := dance_ok (N := N) (u := u) hN hc h hH hi k2 k3 k4 p1 p2 p3 p4 p5 r3 r4
          have hS : GRs (pI t4' 310 17 (t4'.1 310 17 + 1)) (pI m4 200 102 (m4.1 200 102 + 1)) := by
            have e101 := b8 101 (by omega)
            have e102 := b8 102 (by omega)
            rcases b9.2.2.2.2.2 with g | ⟨L2, S2, w2, a2, B2, g1, g2, ⟨g3, g4, g5⟩, g6, g7⟩
            · rw [b6] at g; omega
            · rcases g7 with g7 | ⟨j1, j2, j3, j4, j5, j6⟩
              · rw [b6] at g7; omega
              · refine Or.inr ⟨L2, S2, w2, a2, B2, g1.c (by rw [pI_ne (by decide)]) (by rw [pI_ne (by decide)]) (fun i _ => by rw [pI_ne (by decide)]) (pI_nf (by decide)) (by rw [pI_ne (by decide)]) rfl (by rw [pI_ne (by decide)]) (by rw [pI_ne (by decide)]) rfl (by rw [pI_ne (by decide)]) (by rw [pI_ne (by decide)]) ⟨pI_nf (by decide), pI_nf (by decide)⟩, g2, ⟨by rw [pI_nf (by decide)]; exact g3, by rw [pI_nf (by decide)]; exact g4, g5⟩, by rw [pI_nf (by decide)]; exact g6, Or.inr ⟨by rw [pI_nf (by decide)]; exact j1, by rw [pI_nf (by decide)]; exact j2, by rw [pI_at, pI_at, j3], by rw [pI_at]; omega, by rw [pI_at]; omega, fun i hi => by rw [pI_ne (by decide), pI_ne (by decide)]; exact j6 i hi⟩⟩
          have hR := b9.rw1 hS ⟨fun x _ h2 => pI_ne h2, fun b _ h2 => pI_nf h2, rfl⟩ ⟨fun x _ h2 => pI_ne h2, fun b _ h2 => pI_nf h2, rfl⟩
          refine ⟨0, pI m4 200 102 (m4.1 200 102 + 1), ?_, fun l E r0 => HC.dn (c_follow2 l E r0 N t μ u t6' t4' z x (evb n) B i len hch (by omega) (by omega) (by omega) (by omega) hev.1 (by rw [h361]; exact r1) b1 b2 b4) hR.1 (fun r2 hr2 => (b10 r0 r2 hr2).mv hR.2 (Nat.le_refl _))⟩
          rw [hmu, dn_yes r2 b3, bdI_s, cmpI_ok (by omega), if_neg (by omega), b5, bdV_s]
      · refine no ?_ (by omega) (by omega)
        unfold f_X9_chosenStep
        simp only [lt1_k]
        rw [c1, cmpI_ok (by omega), if_neg (by omega), c3, hq, cmpI_ok (by omega), if_neg (by omega), f3, cmpI_ok (by omega), if_neg (by omega)]
end
