/-! calls that read, calls that change the hall -/
theorem r_frame {I : pI} : row I 103 (I 103) = I := row_id
theorem c_demand2 {X : pX} {d : Nat} {I : pI} {Q : Option Value → pG → pI → Prop} {N : Nat → Int32} {f m : Nat} {x p : Int32} (hf : N 444 = nI f) (hf1 : 2 ≤ f) (hf4 : f ≤ 12) (hm : N 446 = nI m) (hm4 : m ≤ 40) (hd : DemOk N m) : Call X (d + 3) 187 [.ref 102, .int x, .int p] G0 (row I 103 N) Q ↔ Q (some (.int (demV N f m x p))) G0 (row I 103 N) := by
  cases h1 : inR x f
  · unfold demV
    simp (disch := first | exact ok_i | exact ok_r | exact ok_n | exact cat_i | exact cat_r | exact t103 | exact t106 | exact t108 | exact t109 | exact t110 | exact t111 | exact t112 | exact ro_0 | exact ro_1 | omega | assumption | (refine i103 ?_; omega) | (refine i106 ?_; omega) | (refine i108 ?_; omega) | (refine i109 ?_; omega) | (refine i110 ?_; omega) | (refine i111 ?_; omega) | (refine i112 ?_; omega) | (simp only [List.map_cons, List.map_nil, List.sum_cons, List.sum_nil, cat_i, cat_r, cat_l, Nat.reduceAdd, Nat.reduceLeDiff]; done) | decide) only [e187, s187_0, s187_1, s187_2, s187_5, tl_s, tl_n, nI_add, pk_mul, i_cl, row_s, u2_row, i_le, i_lt, i_eq, if_true, if_false, Nat.le_refl, Nat.reduceEqDiff, Nat.reduceLeDiff, c_floor hf hf1 hf4, b2i_0, h1]
    simp (disch := first | exact ok_i | exact ok_r | exact ok_n | exact cat_i | exact cat_r | exact t103 | exact t106 | exact t108 | exact t109 | exact t110 | exact t111 | exact t112 | exact ro_0 | exact ro_1 | omega | assumption | (refine i103 ?_; omega) | (refine i106 ?_; omega) | (refine i108 ?_; omega) | (refine i109 ?_; omega) | (refine i110 ?_; omega) | (refine i111 ?_; omega) | (refine i112 ?_; omega) | (simp only [List.map_cons, List.map_nil, List.sum_cons, List.sum_nil, cat_i, cat_r, cat_l, Nat.reduceAdd, Nat.reduceLeDiff]; done) | decide) only [s187_15, s187_17, tl_s, tl_n, nI_add, pk_mul, i_cl, row_s, u2_row, i_le, i_lt, i_eq, if_true, if_false, Nat.le_refl, Nat.reduceEqDiff, Nat.reduceLeDiff, Bool.false_and, Bool.false_eq_true]
  · obtain ⟨-, h2⟩ := inR_t h1
    obtain ⟨q, q1, q2⟩ := hd (tN x) (by omega)
    exact c_demand hf hf1 hf4 hm hm4 q2 (by omega)
section
variable {X : pX} {n : Nat} {I : pI} {x y w pp a b r s z i : Int32}
theorem w_told (hW : Wd n I) : Duo X 77 152 [.int x, .int y] n I := by
  obtain ⟨f, k, m, T, hr, al, hT⟩ := hW.1
  obtain ⟨⟨hf, hf1, hf4⟩, ⟨hk, hk1, hk4⟩, hm, hm4⟩ := al.1.1
  exact duo_read hW (fun Q => l_told hr al.1) (fun Q => c_told hm hm4 hk hk1 hk4)
theorem w_taken (hW : Wd n I) : Duo X 78 148 [.int x, .int y] n I := by
  obtain ⟨f, k, m, T, hr, al, hT⟩ := hW.1
  obtain ⟨⟨hf, hf1, hf4⟩, ⟨hk, hk1, hk4⟩, hm, hm4⟩ := al.1.1
  exact duo_read hW (fun Q => l_taken hr al.1) (fun Q => c_taken hk hk1 hk4)
theorem w_group (hW : Wd n I) : Duo X 80 153 [.int x, .int y] n I := by
  obtain ⟨f, k, m, T, hr, al, hT⟩ := hW.1
  obtain ⟨⟨hf, hf1, hf4⟩, ⟨hk, hk1, hk4⟩, hm, hm4⟩ := al.1.1
  exact duo_read hW (fun Q => l_group hr) (fun Q => c_mgroup hm hm4)
theorem w_demand (hW : Wd n I) : Duo X 89 187 [.int x, .int y] n I := by
  obtain ⟨f, k, m, T, hr, al, hT⟩ := hW.1
  obtain ⟨⟨hf, hf1, hf4⟩, ⟨hk, hk1, hk4⟩, hm, hm4⟩ := al.1.1
  exact duo_read hW (fun Q => l_demand hr al.1) (fun Q => c_demand2 hf hf1 hf4 hm hm4 al.1.2.2.2.2.2)
theorem w_sweep (hW : Wd n I) : Duo X 90 189 [.int x, .int y] n I := by
  obtain ⟨f, k, m, T, hr, al, hT⟩ := hW.1
  obtain ⟨⟨hf, hf1, hf4⟩, ⟨hk, hk1, hk4⟩, hm, hm4⟩ := al.1.1
  have hb : ∃ b, b < 2 ^ f ∧ (inR x k = true → stopsM (I 103) (tN x) m = nI b) := by
    by_cases c : inR x k = true
    · obtain ⟨-, hx⟩ := inR_t c
      obtain ⟨b, b1, b2⟩ := stops_b hf4 (al.1.2.2.1 (tN x) (by omega)).2.2.1 al.1.2.1.rout
      exact ⟨b, b2, fun _ => b1⟩
    · exact ⟨0, Nat.two_pow_pos f, fun e => absurd e c⟩
  obtain ⟨b, hb2, hb1⟩ := hb
  have h12 : 2 ^ f ≤ 2 ^ 12 := Nat.pow_le_pow_right (by omega) hf4
  exact duo_read hW (fun Q => l_sweep hr al.1 hb1 hb2) (fun Q => c_sweep hf hf1 hf4 hk hk1 hk4 hm hm4 hb1 (by omega))
theorem w_near (hW : Wd n I) : Duo X 91 190 [.int x, .int y, .int w] n I := by
  obtain ⟨f, k, m, T, hr, al, hT⟩ := hW.1
  obtain ⟨⟨hf, hf1, hf4⟩, ⟨hk, hk1, hk4⟩, hm, hm4⟩ := al.1.1
  exact duo_read hW (fun Q => l_near hr al.1) (fun Q => c_near_ hf hf4 hk hk1 hk4 hm hm4)
theorem w_oldest (hW : Wd n I) (hn : n ≤ 1000) : Duo X 92 194 [.int x] n I := by
  obtain ⟨f, k, m, T, hr, al, hT⟩ := hW.1
  obtain ⟨⟨hf, hf1, hf4⟩, ⟨hk, hk1, hk4⟩, hm, hm4⟩ := al.1.1
  exact duo_read hW (fun Q => l_oldest hr al.1 (by omega)) (fun Q => c_oldest hm hm4)
theorem w_mean (hW : Wd n I) (hn : n ≤ 1000) : Duo X 93 195 [.int x] n I := by
  obtain ⟨f, k, m, T, hr, al, hT⟩ := hW.1
  obtain ⟨⟨hf, hf1, hf4⟩, ⟨hk, hk1, hk4⟩, hm, hm4⟩ := al.1.1
  obtain ⟨q, q1, q2⟩ := mnW_q al.1.2.2.2.1 (Nat.le_refl m)
  have q3 : T * m ≤ 3000000 * 40 := Nat.mul_le_mul (by omega) hm4
  exact duo_read hW (fun Q => l_mean hr q1 (by omega)) (fun Q => c_mean hm hm4 q1 (by omega))
theorem w_event (hW : Wd n I) : Duo X 101 155 [.int x, .int y] n I := by
  obtain ⟨f, k, m, T, hr, al, hT⟩ := hW.1
  obtain ⟨e, -, e1, -, e3, -⟩ := hr.hj
  exact duo_read hW (fun Q => l_event hr e3 e1) (fun Q => c_event e3 e1)
theorem w_count (hW : Wd n I) : Duo X 107 223 [.int x] n I := by
  obtain ⟨f, k, m, T, hr, al, hT⟩ := hW.1
  obtain ⟨⟨hf, hf1, hf4⟩, ⟨hk, hk1, hk4⟩, hm, hm4⟩ := al.1.1
  obtain ⟨L, -, l2, l3, -⟩ := hW.2.2.1
  exact duo_read hW (fun Q => l_count hr al.1 (by rw [l2, l3])) (fun Q => c_count hf hf1 hf4 hm hm4)
theorem w_build (hW : Wd n I) : Duo X 75 128 [.int x, .int y] n I := by
  obtain ⟨f, k, m, T, hr, al, hT⟩ := hW.1
  by_cases c : (inL x 2 12 && inL y 1 4) = true
  · have c' := c
    rw [Bool.and_eq_true] at c'
    obtain ⟨e1, x1, x2⟩ := inL_t c'.1
    obtain ⟨e2, y1, y2⟩ := inL_t c'.2
    have al' := bld_all (N := I 103) al.2.1 x1 x2 y1 y2
    rw [← e1, ← e2] at al'
    refine duo_chg (v := I 103 444) hW al' (by omega) (fun Q h => ?_) (fun I1 Q _ h => ?_)
    · refine l_build hr ?_
      rw [if_pos c, if_pos c, if_pos c]
      exact h
    · rw [c_build, if_pos c, if_pos c]
      exact h _ Sm.refl
  · refine duo_chg (v := -2) hW al (by omega) (fun Q h => ?_) (fun I1 Q _ h => ?_)
    · refine l_build hr ?_
      rw [if_neg c, if_neg c, if_neg c]
      exact h
    · rw [c_build, if_neg c, if_neg c]
      exact h _ Sm.refl
theorem w_car (hW : Wd n I) : Duo X 76 147 [.int x, .int a, .int b, .int r] n I := by
  obtain ⟨f, k, m, T, hr, al, hT⟩ := hW.1
  obtain ⟨⟨hf, hf1, hf4⟩, ⟨hk, hk1, hk4⟩, hm, hm4⟩ := al.1.1
  exact duo_chg hW (car_all al) (by omega) (fun Q h => l_car hr al.1 h) (fun I1 Q _ h => (c_mcar hm hm4 hk hk1 hk4).mpr (h _ Sm.refl))
theorem w_call (hW : Wd n I) : Duo X 79 174 [.int x, .int y, .int s] n I := by
  obtain ⟨f, k, m, T, hr, al, hT⟩ := hW.1
  obtain ⟨⟨hf, hf1, hf4⟩, ⟨hk, hk1, hk4⟩, hm, hm4⟩ := al.1.1
  exact duo_chg hW (cl_all al) (by omega) (fun Q h => l_call hr al h) (fun I1 Q h0 h => c_call hf hf1 hf4 hm hm4 hk hk1 hk4 h0 (by omega) h)
theorem w_way (hW : Wd n I) : Duo X 81 175 [.int x] n I := by
  obtain ⟨f, k, m, T, hr, al, hT⟩ := hW.1
  exact duo_chg hW (way_all al) (by omega) (fun Q h => l_way hr h) (fun I1 Q _ h => c_mway.mpr (h _ Sm.refl))
theorem w_gap (hW : Wd n I) : Duo X 82 176 [.int x] n I := by
  obtain ⟨f, k, m, T, hr, al, hT⟩ := hW.1
  exact duo_chg hW (gap_all al) (by omega) (fun Q h => l_gap hr h) (fun I1 Q _ h => c_mgap.mpr (h _ Sm.refl))
theorem w_cost (hW : Wd n I) : Duo X 83 178 [.int x, .int y] n I := by
  obtain ⟨f, k, m, T, hr, al, hT⟩ := hW.1
  obtain ⟨⟨hf, hf1, hf4⟩, ⟨hk, hk1, hk4⟩, hm, hm4⟩ := al.1.1
  exact duo_chg hW al (by omega) (fun Q h => l_cost hr al h) (fun I1 Q h0 h => c_mcost hm hm4 hk hk1 hk4 h0 (by omega) h)
theorem w_give (hW : Wd n I) : Duo X 84 180 [.int x, .int y] n I := by
  obtain ⟨f, k, m, T, hr, al, hT⟩ := hW.1
  obtain ⟨⟨hf, hf1, hf4⟩, ⟨hk, hk1, hk4⟩, hm, hm4⟩ := al.1.1
  exact duo_chg hW (giv_all al) (by omega) (fun Q h => l_give hr al h) (fun I1 Q _ h => (c_give hm hm4 hk hk1 hk4).mpr (h _ Sm.refl))
theorem w_regive (hW : Wd n I) : Duo X 85 181 [] n I := by
  obtain ⟨f, k, m, T, hr, al, hT⟩ := hW.1
  obtain ⟨⟨hf, hf1, hf4⟩, ⟨hk, hk1, hk4⟩, hm, hm4⟩ := al.1.1
  exact duo_chg hW (rg_all al) (by omega) (fun Q h => l_regive hr al h) (fun I1 Q h0 h => c_regive hm hm4 hk hk1 hk4 (al.2.2.ok hk4) h0 (by omega) h)
theorem w_tick (hW : Wd n I) : Duo X 86 164 [] n I := by
  obtain ⟨f, k, m, T, hr, al, hT⟩ := hW.1
  obtain ⟨⟨hf, hf1, hf4⟩, ⟨hk, hk1, hk4⟩, hm, hm4⟩ := al.1.1
  exact duo_chg hW (ps_all al) (by omega) (fun Q h => l_tick hr al h) (fun I1 Q _ h => (c_tick hm hm4 hk hk4).mpr (h _ Sm.refl))
theorem w_ticks (hW : Wd n I) : Duo X 87 165 [.int x] n I := by
  obtain ⟨f, k, m, T, hr, al, hT⟩ := hW.1
  obtain ⟨⟨hf, hf1, hf4⟩, ⟨hk, hk1, hk4⟩, hm, hm4⟩ := al.1.1
  have al' : ∃ T', T' ≤ T + 99 ∧ AllOk (if inL x 0 99 = true then (tsS (I 103) m k (tN x)).1 else I 103) f k m T' := by
    by_cases c : inL x 0 99 = true
    · obtain ⟨-, -, c2⟩ := inL_t c
      rw [if_pos c]
      exact ⟨_, by omega, ts_all al⟩
    · rw [if_neg c]
      exact ⟨T, by omega, al⟩
  obtain ⟨T', t1, t2⟩ := al'
  exact duo_chg hW t2 (by omega) (fun Q h => l_ticks hr al h) (fun I1 Q _ h => (c_ticks hm hm4 hk hk4).mpr (h _ Sm.refl))
theorem w_park (hW : Wd n I) : Duo X 88 184 [] n I := by
  obtain ⟨f, k, m, T, hr, al, hT⟩ := hW.1
  obtain ⟨⟨hf, hf1, hf4⟩, ⟨hk, hk1, hk4⟩, hm, hm4⟩ := al.1.1
  exact duo_chg hW (pk_all al) (by omega) (fun Q h => l_park hr al h) (fun I1 Q _ h => c_park hk hk4 hm hm4 hf (by omega) hf4 (h _ Sm.refl))
theorem w_done (hW : Wd n I) (hn : n ≤ 1000) : Duo X 94 197 [.int x] n I := by
  obtain ⟨f, k, m, T, hr, al, hT⟩ := hW.1
  obtain ⟨⟨hf, hf1, hf4⟩, ⟨hk, hk1, hk4⟩, hm, hm4⟩ := al.1.1
  exact duo_chg hW al (by omega) (fun Q h => l_done hr al (by omega) h) (fun I1 Q h0 h => c_done hm hm4 hk hk4 h0 (by omega) h)
theorem w_would (hW : Wd n I) : Duo X 95 198 [.int x, .int y, .int w] n I := by
  obtain ⟨f, k, m, T, hr, al, hT⟩ := hW.1
  obtain ⟨⟨hf, hf1, hf4⟩, ⟨hk, hk1, hk4⟩, hm, hm4⟩ := al.1.1
  exact duo_chg hW al (by omega) (fun Q h => l_would hr al h) (fun I1 Q h0 h => c_would hm hm4 hk hk1 hk4 h0 (by omega) h)
theorem w_soonest (hW : Wd n I) : Duo X 96 199 [.int x] n I := by
  obtain ⟨f, k, m, T, hr, al, hT⟩ := hW.1
  obtain ⟨⟨hf, hf1, hf4⟩, ⟨hk, hk1, hk4⟩, hm, hm4⟩ := al.1.1
  exact duo_chg hW al (by omega) (fun Q h => l_soonest hr al h) (fun I1 Q h0 h => c_soonest hm hm4 hk hk4 h0 (by omega) h)
theorem w_drawn (hW : Wd n I) (hn : n ≤ 1000) : Duo X 97 201 [.int z, .int y, .int x] n I := by
  obtain ⟨f, k, m, T, hr, al, hT⟩ := hW.1
  exact duo_chg hW al (by omega) (fun Q h => l_drawn hr al (by omega) h) (fun I1 Q h0 h => c_drawn al.1.1 h0 (by omega) h)
theorem w_chance (hW : Wd n I) (hn : n ≤ 1000) : Duo X 98 202 [.int z, .int a, .int w, .int pp] n I := by
  obtain ⟨f, k, m, T, hr, al, hT⟩ := hW.1
  exact duo_chg hW al (by omega) (fun Q h => l_chance hr al (by omega) h) (fun I1 Q h0 h => c_chance al.1.1 h0 (by omega) h)
end
