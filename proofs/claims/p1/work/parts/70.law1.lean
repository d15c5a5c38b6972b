theorem p1_end {b N : Nat} {xs : Nat → Int32} {G : GX} {v : Nat → Int32} {kc ks : Nat} (hN : N ≤ 7) (hkc : kc ≤ 600002) (hks : ks ≤ 7302198) : LG b N xs G 671 [(4, .int (nI 1)), (3, .ref 451), (2, .ref 373), (1, .ref 61)] [] v kc ks :=
  lc_next (i := 1) (lc_head (i := 7) (by decide) (by omega) hkc hks (fun h => absurd h (by omega)))
theorem p1_law {b N : Nat} {xs : Nat → Int32} {G : GX} {v : Nat → Int32} (hN : N ≤ 7) (hNT : G.1.stackTraces = false) (h : FR v) : LG b N xs G 33 [(4, .int (nI 1)), (3, .ref 451), (2, .ref 373), (1, .ref 61)] [] v 391 56987 := by
  refine lc_head (i := 1) (by decide) (by omega) (by decide) (by decide) (fun h6 => ?_)
  refine lc_switch (i := 1) h6 (by omega) (fun j hj => ?_) (p1_end hN (by decide) (by decide))
  have h14 : j = 0 ∨ j = 1 ∨ j = 2 ∨ j = 3 ∨ j = 4 ∨ j = 5 ∨ j = 6 ∨ j = 7 ∨ j = 8 ∨ j = 9 ∨ j = 10 ∨ j = 11 ∨ j = 12 ∨ j = 13 := by omega
  rcases h14 with rfl | rfl | rfl | rfl | rfl | rfl | rfl | rfl | rfl | rfl | rfl | rfl | rfl | rfl
  · exact lc_0 h6 (by omega) (by decide) (by decide) (fp_feed G h (xs (1 + 1)) (xs (1 + 2)) (xs (1 + 3)) (xs (1 + 4)) (xs (1 + 5))) (fun v2 _ => p1_end hN (by decide) (by decide))
  · exact lc_1 h6 (by omega) (by decide) (by decide) (fp_end G h (xs (1 + 1))) (fun v2 _ => p1_end hN (by decide) (by decide))
  · exact lc_2 h6 (by omega) (by decide) (by decide) (fp_hash G h ) (fun v2 _ => p1_end hN (by decide) (by decide))
  · exact lc_3 h6 (by omega) (by decide) (by decide) (fp_group G h ) (fun v2 _ => p1_end hN (by decide) (by decide))
  · exact lc_4 h6 (by omega) (by decide) (by decide) (fp_times G h ) (fun v2 _ => p1_end hN (by decide) (by decide))
  · exact lc_5t h6 (by omega) (by decide) (by decide) (fp_result G hNT h (xs (1 + 1))) (fun v2 v3 _ _ _ => p1_end hN (by decide) (by decide))
  · exact lc_6 h6 (by omega) (by decide) (by decide) (fp_enroll G h (xs (1 + 1))) (fun v2 _ => p1_end hN (by decide) (by decide))
  · exact lc_7 h6 (by omega) (by decide) (by decide) (fp_begin G h (xs (1 + 1)) (xs (1 + 2))) (fun v2 _ => p1_end hN (by decide) (by decide))
  · exact lc_8 h6 (by omega) (by decide) (by decide) (fp_answer G h (xs (1 + 1))) (fun v2 _ => p1_end hN (by decide) (by decide))
  · exact lc_9 h6 (by omega) (by decide) (by decide) (fp_finish G h (xs (1 + 1))) (fun v2 _ => p1_end hN (by decide) (by decide))
  · exact lc_10 h6 (by omega) (by decide) (by decide) (fp_accept G h (xs (1 + 1))) (fun v2 _ => p1_end hN (by decide) (by decide))
  · exact lc_11t h6 (by omega) (by decide) (by decide) (fp_wire G hNT h (xs (1 + 1)) (xs (1 + 2)) (xs (1 + 3))) (fun v2 v3 _ _ _ => p1_end hN (by decide) (by decide))
  · exact lc_12 h6 (by omega) (by decide) (by decide) (fp_tamper G h (xs (1 + 1)) (xs (1 + 2)) (xs (1 + 3)) (xs (1 + 4))) (fun v2 _ => p1_end hN (by decide) (by decide))
  · exact lc_13t h6 (by omega) (by decide) (by decide) (fp_key G hNT h (xs (1 + 1)) (xs (1 + 2)) (xs (1 + 3))) (fun v2 v3 _ _ _ => p1_end hN (by decide) (by decide))
