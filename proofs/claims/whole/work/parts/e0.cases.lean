/-! the law's cases -/
def lws (j : Nat) : List (Nat × Value) := [(0, .ref 4000), (1, .ref 0), (2, .ref 2000), (3, .ref 3000), (4, .int (nI j))]
section LCA
variable {L : Nat} {xs : Nat → Int32} {g pc j : Nat} {lv : List (Nat × Value)} {st : List Value} {σ μ : Mm} {ov : Nat → Int64}
theorem LX_arg {k : Nat} {n : Int} (hj : j + k < L) (hL : L ≤ 3584) (h0 : lv[0]? = some (0, .ref 4000)) (h4 : lv[4]? = some (4, .int (nI j))) (d0 : decode code pc = .ok (.aload_n 0, 1)) (d1 : decode code (pc + 1) = .ok (.iload 4, 2)) (d3 : decode code (pc + 3) = .ok (.iconst n, 1)) (hn : Int32.ofInt n = nI k) (d4 : decode code (pc + 4) = .ok (.iadd, 1)) (d5 : decode code (pc + 5) = .ok (.iaload, 1)) (kk : LX L xs g (pc + 6) lv (.int (xs (j + k)) :: st) σ μ ov) : LX L xs g pc lv st σ μ ov := by
  refine LX_aload_n d0 rfl 0 h0 ?_
  refine LX_iload d1 4 h4 ?_
  refine LX_iconst d3 hn ?_
  refine LX_iadd d4 ?_
  rw [nI_add]
  exact LX_sld hj hL d5 kk
theorem LX_arg6 {k : Nat} {n : Int} (hj : j + k < L) (hL : L ≤ 3584) (h0 : lv[0]? = some (0, .ref 4000)) (h4 : lv[4]? = some (4, .int (nI j))) (d0 : decode code pc = .ok (.aload_n 0, 1)) (d1 : decode code (pc + 1) = .ok (.iload 4, 2)) (d3 : decode code (pc + 3) = .ok (.bipush n, 2)) (hn : (Int8.ofInt n).toInt32 = nI k) (d4 : decode code (pc + 5) = .ok (.iadd, 1)) (d5 : decode code (pc + 6) = .ok (.iaload, 1)) (kk : LX L xs g (pc + 7) lv (.int (xs (j + k)) :: st) σ μ ov) : LX L xs g pc lv st σ μ ov := by
  refine LX_aload_n d0 rfl 0 h0 ?_
  refine LX_iload d1 4 h4 ?_
  refine LX_bipush d3 hn ?_
  refine LX_iadd d4 ?_
  rw [nI_add]
  exact LX_sld hj hL d5 kk
theorem LX_b01 {x : Int32} (d0 : decode code pc = .ok (.ifCond .eq 7, 3)) (d1 : decode code (pc + 3) = .ok (.iconst 1, 1)) (d2 : decode code (pc + 4) = .ok (.goto 4, 3)) (d3 : decode code (pc + 7) = .ok (.iconst 0, 1)) (kk : LX L xs g (pc + 8) lv (.int (if x = 0 then 0 else 1) :: st) σ μ ov) : LX L xs g pc lv (.int x :: st) σ μ ov := by
  refine LX_ifeq (tgt := pc + 7) d0 (by omega) (fun z => ?_) (fun z => ?_)
  · refine LX_iconst d3 (v := 0) (by decide) ?_
    rw [if_pos z] at kk
    exact kk
  · refine LX_iconst d1 (v := 1) (by decide) ?_
    refine LX_goto (tgt := pc + 8) d2 (by omega) ?_
    rw [if_neg z] at kk
    exact kk
end LCA
theorem lwl_23 : Cond.constantLong RL 23 4294967295 ∈ GT := gt_t 1852 (by decide +kernel) (by decide)
set_option maxHeartbeats 1000000 in
theorem lw_c0 {L : Nat} {xs : Nat → Int32} {g j : Nat} {σ μ : Mm} {ov : Nat → Int64} (hj : j + 7 ≤ L) (hL : L ≤ 3584) (h : Iv σ μ) (nx : ∀ σ' μ', Iv σ' μ' → LX L xs g 1277 (lws j) [] σ' μ' ov) : LX L xs g 188 (lws j) [] σ μ ov := by
  obtain ⟨r, σ', μ', e1, e2, hi⟩ := v_feed h (((lshl ((xs (j + 1)).toInt64) 32) ||| ((xs (j + 2)).toInt64 &&& 4294967295))) (((lshl ((xs (j + 3)).toInt64) 32) ||| ((xs (j + 4)).toInt64 &&& 4294967295))) (((lshl ((xs (j + 5)).toInt64) 32) ||| ((xs (j + 6)).toInt64 &&& 4294967295)))
  have c1 := x_X11_feed (((lshl ((xs (j + 1)).toInt64) 32) ||| ((xs (j + 2)).toInt64 &&& 4294967295))) (((lshl ((xs (j + 3)).toInt64) 32) ||| ((xs (j + 4)).toInt64 &&& 4294967295))) (((lshl ((xs (j + 5)).toInt64) 32) ||| ((xs (j + 6)).toInt64 &&& 4294967295))) σ
  have c2 := x_X12_feed (((lshl ((xs (j + 1)).toInt64) 32) ||| ((xs (j + 2)).toInt64 &&& 4294967295))) (((lshl ((xs (j + 3)).toInt64) 32) ||| ((xs (j + 4)).toInt64 &&& 4294967295))) (((lshl ((xs (j + 5)).toInt64) 32) ||| ((xs (j + 6)).toInt64 &&& 4294967295))) μ
  rw [e1] at c1
  rw [e2] at c2
  refine LX_aload_n (pc := 188) (td kLw_0 25 rfl) rfl 1 rfl ?_
  refine LX_arg (pc := 189) (k := 1) (j := j) (by omega) hL rfl rfl (td kLw_0 26 rfl) (td kLw_0 27 rfl) (td kLw_0 28 rfl) (by decide) (td kLw_0 29 rfl) (td kLw_0 30 rfl) ?_
  refine LX_i2l (pc := 195) (td kLw_0 31 rfl) ?_
  refine LX_bipush (pc := 196) (v := 32) (td kLw_0 32 rfl) (by decide) ?_
  refine LX_lshl (pc := 198) (td kLw_0 33 rfl) ?_
  refine LX_arg (pc := 199) (k := 2) (j := j) (by omega) hL rfl rfl (td kLw_0 34 rfl) (td kLw_0 35 rfl) (td kLw_0 36 rfl) (by decide) (td kLw_0 37 rfl) (td kLw_0 38 rfl) ?_
  refine LX_i2l (pc := 205) (td kLw_0 39 rfl) ?_
  refine LX_ldc2 (pc := 206) (td kLw_0 40 rfl) lwl_23 ?_
  refine LX_land (pc := 209) (td kLw_0 41 rfl) ?_
  refine LX_lor (pc := 210) (td kLw_0 42 rfl) ?_
  refine LX_arg (pc := 211) (k := 3) (j := j) (by omega) hL rfl rfl (td kLw_0 43 rfl) (td kLw_0 44 rfl) (td kLw_0 45 rfl) (by decide) (td kLw_0 46 rfl) (td kLw_0 47 rfl) ?_
  refine LX_i2l (pc := 217) (td kLw_0 48 rfl) ?_
  refine LX_bipush (pc := 218) (v := 32) (td kLw_0 49 rfl) (by decide) ?_
  refine LX_lshl (pc := 220) (td kLw_0 50 rfl) ?_
  refine LX_arg (pc := 221) (k := 4) (j := j) (by omega) hL rfl rfl (td kLw_0 51 rfl) (td kLw_0 52 rfl) (td kLw_0 53 rfl) (by decide) (td kLw_0 54 rfl) (td kLw_0 55 rfl) ?_
  refine LX_i2l (pc := 227) (td kLw_0 56 rfl) ?_
  refine LX_ldc2 (pc := 228) (td kLw_0 57 rfl) lwl_23 ?_
  refine LX_land (pc := 231) (td kLw_0 58 rfl) ?_
  refine LX_lor (pc := 232) (td kLw_0 59 rfl) ?_
  refine LX_arg (pc := 233) (k := 5) (j := j) (by omega) hL rfl rfl (td kLw_1 0 rfl) (td kLw_1 1 rfl) (td kLw_1 2 rfl) (by decide) (td kLw_1 3 rfl) (td kLw_1 4 rfl) ?_
  refine LX_i2l (pc := 239) (td kLw_1 5 rfl) ?_
  refine LX_bipush (pc := 240) (v := 32) (td kLw_1 6 rfl) (by decide) ?_
  refine LX_lshl (pc := 242) (td kLw_1 7 rfl) ?_
  refine LX_arg6 (pc := 243) (k := 6) (j := j) (by omega) hL rfl rfl (td kLw_1 8 rfl) (td kLw_1 9 rfl) (td kLw_1 10 rfl) (by decide) (td kLw_1 11 rfl) (td kLw_1 12 rfl) ?_
  refine LX_i2l (pc := 250) (td kLw_1 13 rfl) ?_
  refine LX_ldc2 (pc := 251) (td kLw_1 14 rfl) lwl_23 ?_
  refine LX_land (pc := 254) (td kLw_1 15 rfl) ?_
  refine LX_lor (pc := 255) (td kLw_1 16 rfl) ?_
  refine LX_calli (pc := 256) (As := [.long ((lshl ((xs (j + 1)).toInt64) 32) ||| ((xs (j + 2)).toInt64 &&& 4294967295)), .long ((lshl ((xs (j + 3)).toInt64) 32) ||| ((xs (j + 4)).toInt64 &&& 4294967295)), .long ((lshl ((xs (j + 5)).toInt64) 32) ||| ((xs (j + 6)).toInt64 &&& 4294967295))]) (st := []) c1 mkX11_feed lk_L_25 (by decide) rfl (fun _ => rfl) rfl (Nat.le_of_ble_eq_true rfl) (td kLw_1 17 rfl) ?_
  refine LX_aload_n (pc := 259) (td kLw_1 18 rfl) rfl 2 rfl ?_
  refine LX_arg (pc := 260) (k := 1) (j := j) (by omega) hL rfl rfl (td kLw_1 19 rfl) (td kLw_1 20 rfl) (td kLw_1 21 rfl) (by decide) (td kLw_1 22 rfl) (td kLw_1 23 rfl) ?_
  refine LX_i2l (pc := 266) (td kLw_1 24 rfl) ?_
  refine LX_bipush (pc := 267) (v := 32) (td kLw_1 25 rfl) (by decide) ?_
  refine LX_lshl (pc := 269) (td kLw_1 26 rfl) ?_
  refine LX_arg (pc := 270) (k := 2) (j := j) (by omega) hL rfl rfl (td kLw_1 27 rfl) (td kLw_1 28 rfl) (td kLw_1 29 rfl) (by decide) (td kLw_1 30 rfl) (td kLw_1 31 rfl) ?_
  refine LX_i2l (pc := 276) (td kLw_1 32 rfl) ?_
  refine LX_ldc2 (pc := 277) (td kLw_1 33 rfl) lwl_23 ?_
  refine LX_land (pc := 280) (td kLw_1 34 rfl) ?_
  refine LX_lor (pc := 281) (td kLw_1 35 rfl) ?_
  refine LX_arg (pc := 282) (k := 3) (j := j) (by omega) hL rfl rfl (td kLw_1 36 rfl) (td kLw_1 37 rfl) (td kLw_1 38 rfl) (by decide) (td kLw_1 39 rfl) (td kLw_1 40 rfl) ?_
  refine LX_i2l (pc := 288) (td kLw_1 41 rfl) ?_
  refine LX_bipush (pc := 289) (v := 32) (td kLw_1 42 rfl) (by decide) ?_
  refine LX_lshl (pc := 291) (td kLw_1 43 rfl) ?_
  refine LX_arg (pc := 292) (k := 4) (j := j) (by omega) hL rfl rfl (td kLw_1 44 rfl) (td kLw_1 45 rfl) (td kLw_1 46 rfl) (by decide) (td kLw_1 47 rfl) (td kLw_1 48 rfl) ?_
  refine LX_i2l (pc := 298) (td kLw_1 49 rfl) ?_
  refine LX_ldc2 (pc := 299) (td kLw_1 50 rfl) lwl_23 ?_
  refine LX_land (pc := 302) (td kLw_1 51 rfl) ?_
  refine LX_lor (pc := 303) (td kLw_1 52 rfl) ?_
  refine LX_arg (pc := 304) (k := 5) (j := j) (by omega) hL rfl rfl (td kLw_1 53 rfl) (td kLw_1 54 rfl) (td kLw_1 55 rfl) (by decide) (td kLw_1 56 rfl) (td kLw_1 57 rfl) ?_
  refine LX_i2l (pc := 310) (td kLw_1 58 rfl) ?_
  refine LX_bipush (pc := 311) (v := 32) (td kLw_1 59 rfl) (by decide) ?_
  refine LX_lshl (pc := 313) (td kLw_2 0 rfl) ?_
  refine LX_arg6 (pc := 314) (k := 6) (j := j) (by omega) hL rfl rfl (td kLw_2 1 rfl) (td kLw_2 2 rfl) (td kLw_2 3 rfl) (by decide) (td kLw_2 4 rfl) (td kLw_2 5 rfl) ?_
  refine LX_i2l (pc := 321) (td kLw_2 6 rfl) ?_
  refine LX_ldc2 (pc := 322) (td kLw_2 7 rfl) lwl_23 ?_
  refine LX_land (pc := 325) (td kLw_2 8 rfl) ?_
  refine LX_lor (pc := 326) (td kLw_2 9 rfl) ?_
  refine LX_mcalli (pc := 327) (As := [.long ((lshl ((xs (j + 1)).toInt64) 32) ||| ((xs (j + 2)).toInt64 &&& 4294967295)), .long ((lshl ((xs (j + 3)).toInt64) 32) ||| ((xs (j + 4)).toInt64 &&& 4294967295)), .long ((lshl ((xs (j + 5)).toInt64) 32) ||| ((xs (j + 6)).toInt64 &&& 4294967295))]) (st := [.int r]) c2 mkX12_feed lk_L_29 (by decide) rfl (fun _ => rfl) rfl (Nat.le_of_ble_eq_true rfl) (td kLw_2 10 rfl) ?_
  refine LX_eqr (pc := 330) (tgt := 1277) (td kLw_2 11 rfl) (by decide) rfl ?_
  exact nx σ' μ' hi
set_option maxHeartbeats 1000000 in
theorem lw_c1 {L : Nat} {xs : Nat → Int32} {g j : Nat} {σ μ : Mm} {ov : Nat → Int64} (hj : j + 7 ≤ L) (hL : L ≤ 3584) (h : Iv σ μ) (nx : ∀ σ' μ', Iv σ' μ' → LX L xs g 1277 (lws j) [] σ' μ' ov) : LX L xs g 335 (lws j) [] σ μ ov := by
  obtain ⟨r, σ', μ', e1, e2, hi⟩ := v_town h 
  have c1 := x_X11_town  σ
  have c2 := x_X12_town  μ
  rw [e1] at c1
  rw [e2] at c2
  refine LX_aload_n (pc := 335) (td kLw_2 14 rfl) rfl 1 rfl ?_
  refine LX_calli (pc := 336) (As := []) (st := []) c1 mkX11_town lk_L_30 (by decide) rfl (fun _ => rfl) rfl (Nat.le_of_ble_eq_true rfl) (td kLw_2 15 rfl) ?_
  refine LX_aload_n (pc := 339) (td kLw_2 16 rfl) rfl 2 rfl ?_
  refine LX_mcalli (pc := 340) (As := []) (st := [.int r]) c2 mkX12_town lk_L_34 (by decide) rfl (fun _ => rfl) rfl (Nat.le_of_ble_eq_true rfl) (td kLw_2 17 rfl) ?_
  refine LX_eqr (pc := 343) (tgt := 1277) (td kLw_2 18 rfl) (by decide) rfl ?_
  exact nx σ' μ' hi
set_option maxHeartbeats 1000000 in
theorem lw_c2 {L : Nat} {xs : Nat → Int32} {g j : Nat} {σ μ : Mm} {ov : Nat → Int64} (hj : j + 7 ≤ L) (hL : L ≤ 3584) (h : Iv σ μ) (nx : ∀ σ' μ', Iv σ' μ' → LX L xs g 1277 (lws j) [] σ' μ' ov) : LX L xs g 348 (lws j) [] σ μ ov := by
  obtain ⟨r, σ', μ', e1, e2, hi⟩ := v_evening h 
  have c1 := x_X11_evening  σ
  have c2 := x_X12_evening  μ
  rw [e1] at c1
  rw [e2] at c2
  refine LX_aload_n (pc := 348) (td kLw_2 21 rfl) rfl 1 rfl ?_
  refine LX_calli (pc := 349) (As := []) (st := []) c1 mkX11_evening lk_L_35 (by decide) rfl (fun _ => rfl) rfl (Nat.le_of_ble_eq_true rfl) (td kLw_2 22 rfl) ?_
  refine LX_aload_n (pc := 352) (td kLw_2 23 rfl) rfl 2 rfl ?_
  refine LX_mcalli (pc := 353) (As := []) (st := [.int r]) c2 mkX12_evening lk_L_38 (by decide) rfl (fun _ => rfl) rfl (Nat.le_of_ble_eq_true rfl) (td kLw_2 24 rfl) ?_
  refine LX_eqr (pc := 356) (tgt := 1277) (td kLw_2 25 rfl) (by decide) rfl ?_
  exact nx σ' μ' hi
set_option maxHeartbeats 1000000 in
theorem lw_c3 {L : Nat} {xs : Nat → Int32} {g j : Nat} {σ μ : Mm} {ov : Nat → Int64} (hj : j + 7 ≤ L) (hL : L ≤ 3584) (h : Iv σ μ) (nx : ∀ σ' μ', Iv σ' μ' → LX L xs g 1277 (lws j) [] σ' μ' ov) : LX L xs g 361 (lws j) [] σ μ ov := by
  obtain ⟨r, σ', μ', e1, e2, hi⟩ := v_lane h ((xs (j + 1))) ((xs (j + 2)))
  have c1 := x_X11_lane ((xs (j + 1))) ((xs (j + 2))) σ
  have c2 := x_X12_lane ((xs (j + 1))) ((xs (j + 2))) μ
  rw [e1] at c1
  rw [e2] at c2
  refine LX_aload_n (pc := 361) (td kLw_2 28 rfl) rfl 1 rfl ?_
  refine LX_arg (pc := 362) (k := 1) (j := j) (by omega) hL rfl rfl (td kLw_2 29 rfl) (td kLw_2 30 rfl) (td kLw_2 31 rfl) (by decide) (td kLw_2 32 rfl) (td kLw_2 33 rfl) ?_
  refine LX_arg (pc := 368) (k := 2) (j := j) (by omega) hL rfl rfl (td kLw_2 34 rfl) (td kLw_2 35 rfl) (td kLw_2 36 rfl) (by decide) (td kLw_2 37 rfl) (td kLw_2 38 rfl) ?_
  refine LX_calli (pc := 374) (As := [.int (xs (j + 1)), .int (xs (j + 2))]) (st := []) c1 mkX11_lane lk_L_39 (by decide) rfl (fun _ => rfl) rfl (Nat.le_of_ble_eq_true rfl) (td kLw_2 39 rfl) ?_
  refine LX_aload_n (pc := 377) (td kLw_2 40 rfl) rfl 2 rfl ?_
  refine LX_arg (pc := 378) (k := 1) (j := j) (by omega) hL rfl rfl (td kLw_2 41 rfl) (td kLw_2 42 rfl) (td kLw_2 43 rfl) (by decide) (td kLw_2 44 rfl) (td kLw_2 45 rfl) ?_
  refine LX_arg (pc := 384) (k := 2) (j := j) (by omega) hL rfl rfl (td kLw_2 46 rfl) (td kLw_2 47 rfl) (td kLw_2 48 rfl) (by decide) (td kLw_2 49 rfl) (td kLw_2 50 rfl) ?_
  refine LX_mcalli (pc := 390) (As := [.int (xs (j + 1)), .int (xs (j + 2))]) (st := [.int r]) c2 mkX12_lane lk_L_43 (by decide) rfl (fun _ => rfl) rfl (Nat.le_of_ble_eq_true rfl) (td kLw_2 51 rfl) ?_
  refine LX_eqr (pc := 393) (tgt := 1277) (td kLw_2 52 rfl) (by decide) rfl ?_
  exact nx σ' μ' hi
set_option maxHeartbeats 1000000 in
theorem lw_c4 {L : Nat} {xs : Nat → Int32} {g j : Nat} {σ μ : Mm} {ov : Nat → Int64} (hj : j + 7 ≤ L) (hL : L ≤ 3584) (h : Iv σ μ) (nx : ∀ σ' μ', Iv σ' μ' → LX L xs g 1277 (lws j) [] σ' μ' ov) : LX L xs g 398 (lws j) [] σ μ ov := by
  obtain ⟨r, σ', μ', e1, e2, hi⟩ := v_walker h ((xs (j + 1))) ((xs (j + 2)))
  have c1 := x_X11_walker ((xs (j + 1))) ((xs (j + 2))) σ
  have c2 := x_X12_walker ((xs (j + 1))) ((xs (j + 2))) μ
  rw [e1] at c1
  rw [e2] at c2
  refine LX_aload_n (pc := 398) (td kLw_2 55 rfl) rfl 1 rfl ?_
  refine LX_arg (pc := 399) (k := 1) (j := j) (by omega) hL rfl rfl (td kLw_2 56 rfl) (td kLw_2 57 rfl) (td kLw_2 58 rfl) (by decide) (td kLw_2 59 rfl) (td kLw_3 0 rfl) ?_
  refine LX_arg (pc := 405) (k := 2) (j := j) (by omega) hL rfl rfl (td kLw_3 1 rfl) (td kLw_3 2 rfl) (td kLw_3 3 rfl) (by decide) (td kLw_3 4 rfl) (td kLw_3 5 rfl) ?_
  refine LX_calli (pc := 411) (As := [.int (xs (j + 1)), .int (xs (j + 2))]) (st := []) c1 mkX11_walker lk_L_44 (by decide) rfl (fun _ => rfl) rfl (Nat.le_of_ble_eq_true rfl) (td kLw_3 6 rfl) ?_
  refine LX_aload_n (pc := 414) (td kLw_3 7 rfl) rfl 2 rfl ?_
  refine LX_arg (pc := 415) (k := 1) (j := j) (by omega) hL rfl rfl (td kLw_3 8 rfl) (td kLw_3 9 rfl) (td kLw_3 10 rfl) (by decide) (td kLw_3 11 rfl) (td kLw_3 12 rfl) ?_
  refine LX_arg (pc := 421) (k := 2) (j := j) (by omega) hL rfl rfl (td kLw_3 13 rfl) (td kLw_3 14 rfl) (td kLw_3 15 rfl) (by decide) (td kLw_3 16 rfl) (td kLw_3 17 rfl) ?_
  refine LX_mcalli (pc := 427) (As := [.int (xs (j + 1)), .int (xs (j + 2))]) (st := [.int r]) c2 mkX12_walker lk_L_47 (by decide) rfl (fun _ => rfl) rfl (Nat.le_of_ble_eq_true rfl) (td kLw_3 18 rfl) ?_
  refine LX_eqr (pc := 430) (tgt := 1277) (td kLw_3 19 rfl) (by decide) rfl ?_
  exact nx σ' μ' hi
set_option maxHeartbeats 1000000 in
theorem lw_c5 {L : Nat} {xs : Nat → Int32} {g j : Nat} {σ μ : Mm} {ov : Nat → Int64} (hj : j + 7 ≤ L) (hL : L ≤ 3584) (h : Iv σ μ) (nx : ∀ σ' μ', Iv σ' μ' → LX L xs g 1277 (lws j) [] σ' μ' ov) : LX L xs g 435 (lws j) [] σ μ ov := by
  obtain ⟨r, σ', μ', e1, e2, hi⟩ := v_way h ((xs (j + 1))) ((xs (j + 2)))
  have c1 := x_X11_way ((xs (j + 1))) ((xs (j + 2))) σ
  have c2 := x_X12_way ((xs (j + 1))) ((xs (j + 2))) μ
  rw [e1] at c1
  rw [e2] at c2
  refine LX_aload_n (pc := 435) (td kLw_3 22 rfl) rfl 1 rfl ?_
  refine LX_arg (pc := 436) (k := 1) (j := j) (by omega) hL rfl rfl (td kLw_3 23 rfl) (td kLw_3 24 rfl) (td kLw_3 25 rfl) (by decide) (td kLw_3 26 rfl) (td kLw_3 27 rfl) ?_
  refine LX_arg (pc := 442) (k := 2) (j := j) (by omega) hL rfl rfl (td kLw_3 28 rfl) (td kLw_3 29 rfl) (td kLw_3 30 rfl) (by decide) (td kLw_3 31 rfl) (td kLw_3 32 rfl) ?_
  refine LX_calli (pc := 448) (As := [.int (xs (j + 1)), .int (xs (j + 2))]) (st := []) c1 mkX11_way lk_L_48 (by decide) rfl (fun _ => rfl) rfl (Nat.le_of_ble_eq_true rfl) (td kLw_3 33 rfl) ?_
  refine LX_aload_n (pc := 451) (td kLw_3 34 rfl) rfl 2 rfl ?_
  refine LX_arg (pc := 452) (k := 1) (j := j) (by omega) hL rfl rfl (td kLw_3 35 rfl) (td kLw_3 36 rfl) (td kLw_3 37 rfl) (by decide) (td kLw_3 38 rfl) (td kLw_3 39 rfl) ?_
  refine LX_arg (pc := 458) (k := 2) (j := j) (by omega) hL rfl rfl (td kLw_3 40 rfl) (td kLw_3 41 rfl) (td kLw_3 42 rfl) (by decide) (td kLw_3 43 rfl) (td kLw_3 44 rfl) ?_
  refine LX_mcalli (pc := 464) (As := [.int (xs (j + 1)), .int (xs (j + 2))]) (st := [.int r]) c2 mkX12_way lk_L_51 (by decide) rfl (fun _ => rfl) rfl (Nat.le_of_ble_eq_true rfl) (td kLw_3 45 rfl) ?_
  refine LX_eqr (pc := 467) (tgt := 1277) (td kLw_3 46 rfl) (by decide) rfl ?_
  exact nx σ' μ' hi
set_option maxHeartbeats 1000000 in
theorem lw_c6 {L : Nat} {xs : Nat → Int32} {g j : Nat} {σ μ : Mm} {ov : Nat → Int64} (hj : j + 7 ≤ L) (hL : L ≤ 3584) (h : Iv σ μ) (nx : ∀ σ' μ', Iv σ' μ' → LX L xs g 1277 (lws j) [] σ' μ' ov) : LX L xs g 472 (lws j) [] σ μ ov := by
  obtain ⟨r, σ', μ', e1, e2, hi⟩ := v_next h ((xs (j + 1)))
  have c1 := x_X11_next ((xs (j + 1))) σ
  have c2 := x_X12_next ((xs (j + 1))) μ
  rw [e1] at c1
  rw [e2] at c2
  refine LX_aload_n (pc := 472) (td kLw_3 49 rfl) rfl 1 rfl ?_
  refine LX_arg (pc := 473) (k := 1) (j := j) (by omega) hL rfl rfl (td kLw_3 50 rfl) (td kLw_3 51 rfl) (td kLw_3 52 rfl) (by decide) (td kLw_3 53 rfl) (td kLw_3 54 rfl) ?_
  refine LX_calli (pc := 479) (As := [.int (xs (j + 1))]) (st := []) c1 mkX11_next lk_L_52 (by decide) rfl (fun _ => rfl) rfl (Nat.le_of_ble_eq_true rfl) (td kLw_3 55 rfl) ?_
  refine LX_aload_n (pc := 482) (td kLw_3 56 rfl) rfl 2 rfl ?_
  refine LX_arg (pc := 483) (k := 1) (j := j) (by omega) hL rfl rfl (td kLw_3 57 rfl) (td kLw_3 58 rfl) (td kLw_3 59 rfl) (by decide) (td kLw_4 0 rfl) (td kLw_4 1 rfl) ?_
  refine LX_mcalli (pc := 489) (As := [.int (xs (j + 1))]) (st := [.int r]) c2 mkX12_next lk_L_55 (by decide) rfl (fun _ => rfl) rfl (Nat.le_of_ble_eq_true rfl) (td kLw_4 2 rfl) ?_
  refine LX_eqr (pc := 492) (tgt := 1277) (td kLw_4 3 rfl) (by decide) rfl ?_
  exact nx σ' μ' hi
set_option maxHeartbeats 1000000 in
theorem lw_c7 {L : Nat} {xs : Nat → Int32} {g j : Nat} {σ μ : Mm} {ov : Nat → Int64} (hj : j + 7 ≤ L) (hL : L ≤ 3584) (h : Iv σ μ) (nx : ∀ σ' μ', Iv σ' μ' → LX L xs g 1277 (lws j) [] σ' μ' ov) : LX L xs g 497 (lws j) [] σ μ ov := by
  obtain ⟨r, σ', μ', e1, e2, hi⟩ := v_minute h 
  have c1 := x_X11_minute  σ
  have c2 := x_X12_minute  μ
  rw [e1] at c1
  rw [e2] at c2
  refine LX_aload_n (pc := 497) (td kLw_4 6 rfl) rfl 1 rfl ?_
  refine LX_calli (pc := 498) (As := []) (st := []) c1 mkX11_minute lk_L_56 (by decide) rfl (fun _ => rfl) rfl (Nat.le_of_ble_eq_true rfl) (td kLw_4 7 rfl) ?_
  refine LX_aload_n (pc := 501) (td kLw_4 8 rfl) rfl 2 rfl ?_
  refine LX_mcalli (pc := 502) (As := []) (st := [.int r]) c2 mkX12_minute lk_L_59 (by decide) rfl (fun _ => rfl) rfl (Nat.le_of_ble_eq_true rfl) (td kLw_4 9 rfl) ?_
  refine LX_eqr (pc := 505) (tgt := 1277) (td kLw_4 10 rfl) (by decide) rfl ?_
  exact nx σ' μ' hi
set_option maxHeartbeats 1000000 in
theorem lw_c8 {L : Nat} {xs : Nat → Int32} {g j : Nat} {σ μ : Mm} {ov : Nat → Int64} (hj : j + 7 ≤ L) (hL : L ≤ 3584) (h : Iv σ μ) (nx : ∀ σ' μ', Iv σ' μ' → LX L xs g 1277 (lws j) [] σ' μ' ov) : LX L xs g 510 (lws j) [] σ μ ov := by
  obtain ⟨r, σ', μ', e1, e2, hi⟩ := v_send h ((xs (j + 1))) ((xs (j + 2)))
  have c1 := x_X11_send ((xs (j + 1))) ((xs (j + 2))) σ
  have c2 := x_X12_send ((xs (j + 1))) ((xs (j + 2))) μ
  rw [e1] at c1
  rw [e2] at c2
  refine LX_aload_n (pc := 510) (td kLw_4 13 rfl) rfl 1 rfl ?_
  refine LX_arg (pc := 511) (k := 1) (j := j) (by omega) hL rfl rfl (td kLw_4 14 rfl) (td kLw_4 15 rfl) (td kLw_4 16 rfl) (by decide) (td kLw_4 17 rfl) (td kLw_4 18 rfl) ?_
  refine LX_arg (pc := 517) (k := 2) (j := j) (by omega) hL rfl rfl (td kLw_4 19 rfl) (td kLw_4 20 rfl) (td kLw_4 21 rfl) (by decide) (td kLw_4 22 rfl) (td kLw_4 23 rfl) ?_
  refine LX_calli (pc := 523) (As := [.int (xs (j + 1)), .int (xs (j + 2))]) (st := []) c1 mkX11_send lk_L_60 (by decide) rfl (fun _ => rfl) rfl (Nat.le_of_ble_eq_true rfl) (td kLw_4 24 rfl) ?_
  refine LX_aload_n (pc := 526) (td kLw_4 25 rfl) rfl 2 rfl ?_
  refine LX_arg (pc := 527) (k := 1) (j := j) (by omega) hL rfl rfl (td kLw_4 26 rfl) (td kLw_4 27 rfl) (td kLw_4 28 rfl) (by decide) (td kLw_4 29 rfl) (td kLw_4 30 rfl) ?_
  refine LX_arg (pc := 533) (k := 2) (j := j) (by omega) hL rfl rfl (td kLw_4 31 rfl) (td kLw_4 32 rfl) (td kLw_4 33 rfl) (by decide) (td kLw_4 34 rfl) (td kLw_4 35 rfl) ?_
  refine LX_mcalli (pc := 539) (As := [.int (xs (j + 1)), .int (xs (j + 2))]) (st := [.int r]) c2 mkX12_send lk_L_63 (by decide) rfl (fun _ => rfl) rfl (Nat.le_of_ble_eq_true rfl) (td kLw_4 36 rfl) ?_
  refine LX_eqr (pc := 542) (tgt := 1277) (td kLw_4 37 rfl) (by decide) rfl ?_
  exact nx σ' μ' hi
set_option maxHeartbeats 1000000 in
theorem lw_c9 {L : Nat} {xs : Nat → Int32} {g j : Nat} {σ μ : Mm} {ov : Nat → Int64} (hj : j + 7 ≤ L) (hL : L ≤ 3584) (h : Iv σ μ) (nx : ∀ σ' μ', Iv σ' μ' → LX L xs g 1277 (lws j) [] σ' μ' ov) : LX L xs g 547 (lws j) [] σ μ ov := by
  obtain ⟨r, σ', μ', e1, e2, hi⟩ := v_waits h ((xs (j + 1)))
  have c1 := x_X11_waits ((xs (j + 1))) σ
  have c2 := x_X12_waits ((xs (j + 1))) μ
  rw [e1] at c1
  rw [e2] at c2
  refine LX_aload_n (pc := 547) (td kLw_4 40 rfl) rfl 1 rfl ?_
  refine LX_arg (pc := 548) (k := 1) (j := j) (by omega) hL rfl rfl (td kLw_4 41 rfl) (td kLw_4 42 rfl) (td kLw_4 43 rfl) (by decide) (td kLw_4 44 rfl) (td kLw_4 45 rfl) ?_
  refine LX_calli (pc := 554) (As := [.int (xs (j + 1))]) (st := []) c1 mkX11_waits lk_L_64 (by decide) rfl (fun _ => rfl) rfl (Nat.le_of_ble_eq_true rfl) (td kLw_4 46 rfl) ?_
  refine LX_aload_n (pc := 557) (td kLw_4 47 rfl) rfl 2 rfl ?_
  refine LX_arg (pc := 558) (k := 1) (j := j) (by omega) hL rfl rfl (td kLw_4 48 rfl) (td kLw_4 49 rfl) (td kLw_4 50 rfl) (by decide) (td kLw_4 51 rfl) (td kLw_4 52 rfl) ?_
  refine LX_mcalli (pc := 564) (As := [.int (xs (j + 1))]) (st := [.int r]) c2 mkX12_waits lk_L_67 (by decide) rfl (fun _ => rfl) rfl (Nat.le_of_ble_eq_true rfl) (td kLw_4 53 rfl) ?_
  refine LX_eqr (pc := 567) (tgt := 1277) (td kLw_4 54 rfl) (by decide) rfl ?_
  exact nx σ' μ' hi
set_option maxHeartbeats 1000000 in
theorem lw_c10 {L : Nat} {xs : Nat → Int32} {g j : Nat} {σ μ : Mm} {ov : Nat → Int64} (hj : j + 7 ≤ L) (hL : L ≤ 3584) (h : Iv σ μ) (nx : ∀ σ' μ', Iv σ' μ' → LX L xs g 1277 (lws j) [] σ' μ' ov) : LX L xs g 572 (lws j) [] σ μ ov := by
  obtain ⟨r, σ', μ', e1, e2, hi⟩ := v_back h ((xs (j + 1)))
  have c1 := x_X11_back ((xs (j + 1))) σ
  have c2 := x_X12_back ((xs (j + 1))) μ
  rw [e1] at c1
  rw [e2] at c2
  refine LX_aload_n (pc := 572) (td kLw_4 57 rfl) rfl 1 rfl ?_
  refine LX_arg (pc := 573) (k := 1) (j := j) (by omega) hL rfl rfl (td kLw_4 58 rfl) (td kLw_4 59 rfl) (td kLw_5 0 rfl) (by decide) (td kLw_5 1 rfl) (td kLw_5 2 rfl) ?_
  refine LX_calli (pc := 579) (As := [.int (xs (j + 1))]) (st := []) c1 mkX11_back lk_L_68 (by decide) rfl (fun _ => rfl) rfl (Nat.le_of_ble_eq_true rfl) (td kLw_5 3 rfl) ?_
  refine LX_aload_n (pc := 582) (td kLw_5 4 rfl) rfl 2 rfl ?_
  refine LX_arg (pc := 583) (k := 1) (j := j) (by omega) hL rfl rfl (td kLw_5 5 rfl) (td kLw_5 6 rfl) (td kLw_5 7 rfl) (by decide) (td kLw_5 8 rfl) (td kLw_5 9 rfl) ?_
  refine LX_mcalli (pc := 589) (As := [.int (xs (j + 1))]) (st := [.int r]) c2 mkX12_back lk_L_72 (by decide) rfl (fun _ => rfl) rfl (Nat.le_of_ble_eq_true rfl) (td kLw_5 10 rfl) ?_
  refine LX_eqr (pc := 592) (tgt := 1277) (td kLw_5 11 rfl) (by decide) rfl ?_
  exact nx σ' μ' hi
set_option maxHeartbeats 1000000 in
theorem lw_c11 {L : Nat} {xs : Nat → Int32} {g j : Nat} {σ μ : Mm} {ov : Nat → Int64} (hj : j + 7 ≤ L) (hL : L ≤ 3584) (h : Iv σ μ) (nx : ∀ σ' μ', Iv σ' μ' → LX L xs g 1277 (lws j) [] σ' μ' ov) : LX L xs g 597 (lws j) [] σ μ ov := by
  obtain ⟨r, σ', μ', e1, e2, hi⟩ := v_undo h 
  have c1 := x_X11_undo  σ
  have c2 := x_X12_undo  μ
  rw [e1] at c1
  rw [e2] at c2
  refine LX_aload_n (pc := 597) (td kLw_5 14 rfl) rfl 1 rfl ?_
  refine LX_calli (pc := 598) (As := []) (st := []) c1 mkX11_undo lk_L_73 (by decide) rfl (fun _ => rfl) rfl (Nat.le_of_ble_eq_true rfl) (td kLw_5 15 rfl) ?_
  refine LX_aload_n (pc := 601) (td kLw_5 16 rfl) rfl 2 rfl ?_
  refine LX_mcalli (pc := 602) (As := []) (st := [.int r]) c2 mkX12_undo lk_L_77 (by decide) rfl (fun _ => rfl) rfl (Nat.le_of_ble_eq_true rfl) (td kLw_5 17 rfl) ?_
  refine LX_eqr (pc := 605) (tgt := 1277) (td kLw_5 18 rfl) (by decide) rfl ?_
  exact nx σ' μ' hi
set_option maxHeartbeats 1000000 in
theorem lw_c12 {L : Nat} {xs : Nat → Int32} {g j : Nat} {σ μ : Mm} {ov : Nat → Int64} (hj : j + 7 ≤ L) (hL : L ≤ 3584) (h : Iv σ μ) (nx : ∀ σ' μ', Iv σ' μ' → LX L xs g 1277 (lws j) [] σ' μ' ov) : LX L xs g 610 (lws j) [] σ μ ov := by
  obtain ⟨r, σ', μ', e1, e2, hi⟩ := v_judged h ((xs (j + 1)))
  have c1 := x_X11_judged ((xs (j + 1))) σ
  have c2 := x_X12_judged ((xs (j + 1))) μ
  rw [e1] at c1
  rw [e2] at c2
  refine LX_aload_n (pc := 610) (td kLw_5 21 rfl) rfl 1 rfl ?_
  refine LX_arg (pc := 611) (k := 1) (j := j) (by omega) hL rfl rfl (td kLw_5 22 rfl) (td kLw_5 23 rfl) (td kLw_5 24 rfl) (by decide) (td kLw_5 25 rfl) (td kLw_5 26 rfl) ?_
  refine LX_calli (pc := 617) (As := [.int (xs (j + 1))]) (st := []) c1 mkX11_judged lk_L_78 (by decide) rfl (fun _ => rfl) rfl (Nat.le_of_ble_eq_true rfl) (td kLw_5 27 rfl) ?_
  refine LX_aload_n (pc := 620) (td kLw_5 28 rfl) rfl 2 rfl ?_
  refine LX_arg (pc := 621) (k := 1) (j := j) (by omega) hL rfl rfl (td kLw_5 29 rfl) (td kLw_5 30 rfl) (td kLw_5 31 rfl) (by decide) (td kLw_5 32 rfl) (td kLw_5 33 rfl) ?_
  refine LX_mcalli (pc := 627) (As := [.int (xs (j + 1))]) (st := [.int r]) c2 mkX12_judged lk_L_81 (by decide) rfl (fun _ => rfl) rfl (Nat.le_of_ble_eq_true rfl) (td kLw_5 34 rfl) ?_
  refine LX_eqr (pc := 630) (tgt := 1277) (td kLw_5 35 rfl) (by decide) rfl ?_
  exact nx σ' μ' hi
set_option maxHeartbeats 1000000 in
theorem lw_c13 {L : Nat} {xs : Nat → Int32} {g j : Nat} {σ μ : Mm} {ov : Nat → Int64} (hj : j + 7 ≤ L) (hL : L ≤ 3584) (h : Iv σ μ) (nx : ∀ σ' μ', Iv σ' μ' → LX L xs g 1277 (lws j) [] σ' μ' ov) : LX L xs g 635 (lws j) [] σ μ ov := by
  obtain ⟨r, σ', μ', e1, e2, hi⟩ := v_darks h ((xs (j + 1)))
  have c1 := x_X11_darks ((xs (j + 1))) σ
  have c2 := x_X12_darks ((xs (j + 1))) μ
  rw [e1] at c1
  rw [e2] at c2
  refine LX_aload_n (pc := 635) (td kLw_5 38 rfl) rfl 1 rfl ?_
  refine LX_arg (pc := 636) (k := 1) (j := j) (by omega) hL rfl rfl (td kLw_5 39 rfl) (td kLw_5 40 rfl) (td kLw_5 41 rfl) (by decide) (td kLw_5 42 rfl) (td kLw_5 43 rfl) ?_
  refine LX_calli (pc := 642) (As := [.int (xs (j + 1))]) (st := []) c1 mkX11_darks lk_L_82 (by decide) rfl (fun _ => rfl) rfl (Nat.le_of_ble_eq_true rfl) (td kLw_5 44 rfl) ?_
  refine LX_aload_n (pc := 645) (td kLw_5 45 rfl) rfl 2 rfl ?_
  refine LX_arg (pc := 646) (k := 1) (j := j) (by omega) hL rfl rfl (td kLw_5 46 rfl) (td kLw_5 47 rfl) (td kLw_5 48 rfl) (by decide) (td kLw_5 49 rfl) (td kLw_5 50 rfl) ?_
  refine LX_mcalli (pc := 652) (As := [.int (xs (j + 1))]) (st := [.int r]) c2 mkX12_darks lk_L_85 (by decide) rfl (fun _ => rfl) rfl (Nat.le_of_ble_eq_true rfl) (td kLw_5 51 rfl) ?_
  refine LX_eqr (pc := 655) (tgt := 1277) (td kLw_5 52 rfl) (by decide) rfl ?_
  exact nx σ' μ' hi
set_option maxHeartbeats 1000000 in
theorem lw_c14 {L : Nat} {xs : Nat → Int32} {g j : Nat} {σ μ : Mm} {ov : Nat → Int64} (hj : j + 7 ≤ L) (hL : L ≤ 3584) (h : Iv σ μ) (nx : ∀ σ' μ', Iv σ' μ' → LX L xs g 1277 (lws j) [] σ' μ' ov) : LX L xs g 660 (lws j) [] σ μ ov := by
  obtain ⟨r, σ', μ', e1, e2, hi⟩ := v_home h ((xs (j + 1)))
  have c1 := x_X11_home ((xs (j + 1))) σ
  have c2 := x_X12_home ((xs (j + 1))) μ
  rw [e1] at c1
  rw [e2] at c2
  refine LX_aload_n (pc := 660) (td kLw_5 55 rfl) rfl 1 rfl ?_
  refine LX_arg (pc := 661) (k := 1) (j := j) (by omega) hL rfl rfl (td kLw_5 56 rfl) (td kLw_5 57 rfl) (td kLw_5 58 rfl) (by decide) (td kLw_5 59 rfl) (td kLw_6 0 rfl) ?_
  refine LX_calli (pc := 667) (As := [.int (xs (j + 1))]) (st := []) c1 mkX11_home lk_L_86 (by decide) rfl (fun _ => rfl) rfl (Nat.le_of_ble_eq_true rfl) (td kLw_6 1 rfl) ?_
  refine LX_aload_n (pc := 670) (td kLw_6 2 rfl) rfl 2 rfl ?_
  refine LX_arg (pc := 671) (k := 1) (j := j) (by omega) hL rfl rfl (td kLw_6 3 rfl) (td kLw_6 4 rfl) (td kLw_6 5 rfl) (by decide) (td kLw_6 6 rfl) (td kLw_6 7 rfl) ?_
  refine LX_mcalli (pc := 677) (As := [.int (xs (j + 1))]) (st := [.int r]) c2 mkX12_home lk_L_89 (by decide) rfl (fun _ => rfl) rfl (Nat.le_of_ble_eq_true rfl) (td kLw_6 8 rfl) ?_
  refine LX_eqr (pc := 680) (tgt := 1277) (td kLw_6 9 rfl) (by decide) rfl ?_
  exact nx σ' μ' hi
set_option maxHeartbeats 1000000 in
theorem lw_c15 {L : Nat} {xs : Nat → Int32} {g j : Nat} {σ μ : Mm} {ov : Nat → Int64} (hj : j + 7 ≤ L) (hL : L ≤ 3584) (h : Iv σ μ) (nx : ∀ σ' μ', Iv σ' μ' → LX L xs g 1277 (lws j) [] σ' μ' ov) : LX L xs g 685 (lws j) [] σ μ ov := by
  obtain ⟨r, σ', μ', e1, e2, hi⟩ := v_glow h 
  have c1 := x_X11_glow  σ
  have c2 := x_X12_glow  μ
  rw [e1] at c1
  rw [e2] at c2
  refine LX_aload_n (pc := 685) (td kLw_6 12 rfl) rfl 1 rfl ?_
  refine LX_calli (pc := 686) (As := []) (st := []) c1 mkX11_glow lk_L_90 (by decide) rfl (fun _ => rfl) rfl (Nat.le_of_ble_eq_true rfl) (td kLw_6 13 rfl) ?_
  refine LX_aload_n (pc := 689) (td kLw_6 14 rfl) rfl 2 rfl ?_
  refine LX_mcalli (pc := 690) (As := []) (st := [.int r]) c2 mkX12_glow lk_L_93 (by decide) rfl (fun _ => rfl) rfl (Nat.le_of_ble_eq_true rfl) (td kLw_6 15 rfl) ?_
  refine LX_eqr (pc := 693) (tgt := 1277) (td kLw_6 16 rfl) (by decide) rfl ?_
  exact nx σ' μ' hi
set_option maxHeartbeats 1000000 in
theorem lw_c16 {L : Nat} {xs : Nat → Int32} {g j : Nat} {σ μ : Mm} {ov : Nat → Int64} (hj : j + 7 ≤ L) (hL : L ≤ 3584) (h : Iv σ μ) (nx : ∀ σ' μ', Iv σ' μ' → LX L xs g 1277 (lws j) [] σ' μ' ov) : LX L xs g 698 (lws j) [] σ μ ov := by
  obtain ⟨r, σ', μ', e1, e2, hi⟩ := v_burns h ((xs (j + 1))) ((xs (j + 2)))
  have c1 := x_X11_burns ((xs (j + 1))) ((xs (j + 2))) σ
  have c2 := x_X12_burns ((xs (j + 1))) ((xs (j + 2))) μ
  rw [e1] at c1
  rw [e2] at c2
  refine LX_aload_n (pc := 698) (td kLw_6 19 rfl) rfl 1 rfl ?_
  refine LX_arg (pc := 699) (k := 1) (j := j) (by omega) hL rfl rfl (td kLw_6 20 rfl) (td kLw_6 21 rfl) (td kLw_6 22 rfl) (by decide) (td kLw_6 23 rfl) (td kLw_6 24 rfl) ?_
  refine LX_arg (pc := 705) (k := 2) (j := j) (by omega) hL rfl rfl (td kLw_6 25 rfl) (td kLw_6 26 rfl) (td kLw_6 27 rfl) (by decide) (td kLw_6 28 rfl) (td kLw_6 29 rfl) ?_
  refine LX_calli (pc := 711) (As := [.int (xs (j + 1)), .int (xs (j + 2))]) (st := []) c1 mkX11_burns lk_L_94 (by decide) rfl (fun _ => rfl) rfl (Nat.le_of_ble_eq_true rfl) (td kLw_6 30 rfl) ?_
  refine LX_aload_n (pc := 714) (td kLw_6 31 rfl) rfl 2 rfl ?_
  refine LX_arg (pc := 715) (k := 1) (j := j) (by omega) hL rfl rfl (td kLw_6 32 rfl) (td kLw_6 33 rfl) (td kLw_6 34 rfl) (by decide) (td kLw_6 35 rfl) (td kLw_6 36 rfl) ?_
  refine LX_arg (pc := 721) (k := 2) (j := j) (by omega) hL rfl rfl (td kLw_6 37 rfl) (td kLw_6 38 rfl) (td kLw_6 39 rfl) (by decide) (td kLw_6 40 rfl) (td kLw_6 41 rfl) ?_
  refine LX_mcalli (pc := 727) (As := [.int (xs (j + 1)), .int (xs (j + 2))]) (st := [.int r]) c2 mkX12_burns lk_L_97 (by decide) rfl (fun _ => rfl) rfl (Nat.le_of_ble_eq_true rfl) (td kLw_6 42 rfl) ?_
  refine LX_eqr (pc := 730) (tgt := 1277) (td kLw_6 43 rfl) (by decide) rfl ?_
  exact nx σ' μ' hi
set_option maxHeartbeats 1000000 in
theorem lw_c17 {L : Nat} {xs : Nat → Int32} {g j : Nat} {σ μ : Mm} {ov : Nat → Int64} (hj : j + 7 ≤ L) (hL : L ≤ 3584) (h : Iv σ μ) (nx : ∀ σ' μ', Iv σ' μ' → LX L xs g 1277 (lws j) [] σ' μ' ov) : LX L xs g 735 (lws j) [] σ μ ov := by
  obtain ⟨r, σ', μ', e1, e2, hi⟩ := v_delay h ((xs (j + 1)))
  have c1 := x_X11_delay ((xs (j + 1))) σ
  have c2 := x_X12_delay ((xs (j + 1))) μ
  rw [e1] at c1
  rw [e2] at c2
  refine LX_aload_n (pc := 735) (td kLw_6 46 rfl) rfl 1 rfl ?_
  refine LX_arg (pc := 736) (k := 1) (j := j) (by omega) hL rfl rfl (td kLw_6 47 rfl) (td kLw_6 48 rfl) (td kLw_6 49 rfl) (by decide) (td kLw_6 50 rfl) (td kLw_6 51 rfl) ?_
  refine LX_calli (pc := 742) (As := [.int (xs (j + 1))]) (st := []) c1 mkX11_delay lk_L_98 (by decide) rfl (fun _ => rfl) rfl (Nat.le_of_ble_eq_true rfl) (td kLw_6 52 rfl) ?_
  refine LX_aload_n (pc := 745) (td kLw_6 53 rfl) rfl 2 rfl ?_
  refine LX_arg (pc := 746) (k := 1) (j := j) (by omega) hL rfl rfl (td kLw_6 54 rfl) (td kLw_6 55 rfl) (td kLw_6 56 rfl) (by decide) (td kLw_6 57 rfl) (td kLw_6 58 rfl) ?_
  refine LX_mcalli (pc := 752) (As := [.int (xs (j + 1))]) (st := [.int r]) c2 mkX12_delay lk_L_101 (by decide) rfl (fun _ => rfl) rfl (Nat.le_of_ble_eq_true rfl) (td kLw_6 59 rfl) ?_
  refine LX_eqr (pc := 755) (tgt := 1277) (td kLw_7 0 rfl) (by decide) rfl ?_
  exact nx σ' μ' hi
set_option maxHeartbeats 1000000 in
theorem lw_c18 {L : Nat} {xs : Nat → Int32} {g j : Nat} {σ μ : Mm} {ov : Nat → Int64} (hj : j + 7 ≤ L) (hL : L ≤ 3584) (h : Iv σ μ) (nx : ∀ σ' μ', Iv σ' μ' → LX L xs g 1277 (lws j) [] σ' μ' ov) : LX L xs g 760 (lws j) [] σ μ ov := by
  obtain ⟨r, σ', μ', e1, e2, hi⟩ := v_boys h 
  have c1 := x_X11_boys  σ
  have c2 := x_X12_boys  μ
  rw [e1] at c1
  rw [e2] at c2
  refine LX_aload_n (pc := 760) (td kLw_7 3 rfl) rfl 1 rfl ?_
  refine LX_calli (pc := 761) (As := []) (st := []) c1 mkX11_boys lk_L_102 (by decide) rfl (fun _ => rfl) rfl (Nat.le_of_ble_eq_true rfl) (td kLw_7 4 rfl) ?_
  refine LX_aload_n (pc := 764) (td kLw_7 5 rfl) rfl 2 rfl ?_
  refine LX_mcalli (pc := 765) (As := []) (st := [.int r]) c2 mkX12_boys lk_L_105 (by decide) rfl (fun _ => rfl) rfl (Nat.le_of_ble_eq_true rfl) (td kLw_7 6 rfl) ?_
  refine LX_eqr (pc := 768) (tgt := 1277) (td kLw_7 7 rfl) (by decide) rfl ?_
  exact nx σ' μ' hi
set_option maxHeartbeats 1000000 in
theorem lw_c19 {L : Nat} {xs : Nat → Int32} {g j : Nat} {σ μ : Mm} {ov : Nat → Int64} (hj : j + 7 ≤ L) (hL : L ≤ 3584) (h : Iv σ μ) (nx : ∀ σ' μ', Iv σ' μ' → LX L xs g 1277 (lws j) [] σ' μ' ov) : LX L xs g 773 (lws j) [] σ μ ov := by
  obtain ⟨r, σ', μ', e1, e2, hi⟩ := v_alarm h 
  have c1 := x_X11_alarm  σ
  have c2 := x_X12_alarm  μ
  rw [e1] at c1
  rw [e2] at c2
  refine LX_aload_n (pc := 773) (td kLw_7 10 rfl) rfl 1 rfl ?_
  refine LX_calli (pc := 774) (As := []) (st := []) c1 mkX11_alarm lk_L_106 (by decide) rfl (fun _ => rfl) rfl (Nat.le_of_ble_eq_true rfl) (td kLw_7 11 rfl) ?_
  refine LX_aload_n (pc := 777) (td kLw_7 12 rfl) rfl 2 rfl ?_
  refine LX_mcalli (pc := 778) (As := []) (st := [.int r]) c2 mkX12_alarm lk_L_109 (by decide) rfl (fun _ => rfl) rfl (Nat.le_of_ble_eq_true rfl) (td kLw_7 13 rfl) ?_
  refine LX_eqr (pc := 781) (tgt := 1277) (td kLw_7 14 rfl) (by decide) rfl ?_
  exact nx σ' μ' hi
set_option maxHeartbeats 1000000 in
theorem lw_c20 {L : Nat} {xs : Nat → Int32} {g j : Nat} {σ μ : Mm} {ov : Nat → Int64} (hj : j + 7 ≤ L) (hL : L ≤ 3584) (h : Iv σ μ) (nx : ∀ σ' μ', Iv σ' μ' → LX L xs g 1277 (lws j) [] σ' μ' ov) : LX L xs g 786 (lws j) [] σ μ ov := by
  obtain ⟨r, σ', μ', e1, e2, hi⟩ := v_blind h 
  have c1 := x_X11_blind  σ
  have c2 := x_X12_blind  μ
  rw [e1] at c1
  rw [e2] at c2
  refine LX_aload_n (pc := 786) (td kLw_7 17 rfl) rfl 1 rfl ?_
  refine LX_calli (pc := 787) (As := []) (st := []) c1 mkX11_blind lk_L_110 (by decide) rfl (fun _ => rfl) rfl (Nat.le_of_ble_eq_true rfl) (td kLw_7 18 rfl) ?_
  refine LX_aload_n (pc := 790) (td kLw_7 19 rfl) rfl 2 rfl ?_
  refine LX_mcalli (pc := 791) (As := []) (st := [.int r]) c2 mkX12_blind lk_L_113 (by decide) rfl (fun _ => rfl) rfl (Nat.le_of_ble_eq_true rfl) (td kLw_7 20 rfl) ?_
  refine LX_eqr (pc := 794) (tgt := 1277) (td kLw_7 21 rfl) (by decide) rfl ?_
  exact nx σ' μ' hi
set_option maxHeartbeats 1000000 in
theorem lw_c21 {L : Nat} {xs : Nat → Int32} {g j : Nat} {σ μ : Mm} {ov : Nat → Int64} (hj : j + 7 ≤ L) (hL : L ≤ 3584) (h : Iv σ μ) (nx : ∀ σ' μ', Iv σ' μ' → LX L xs g 1277 (lws j) [] σ' μ' ov) : LX L xs g 799 (lws j) [] σ μ ov := by
  obtain ⟨r, σ', μ', e1, e2, hi⟩ := v_meet h ((xs (j + 1))) ((xs (j + 2)))
  have c1 := x_X11_meet ((xs (j + 1))) ((xs (j + 2))) σ
  have c2 := x_X12_meet ((xs (j + 1))) ((xs (j + 2))) μ
  rw [e1] at c1
  rw [e2] at c2
  refine LX_aload_n (pc := 799) (td kLw_7 24 rfl) rfl 1 rfl ?_
  refine LX_arg (pc := 800) (k := 1) (j := j) (by omega) hL rfl rfl (td kLw_7 25 rfl) (td kLw_7 26 rfl) (td kLw_7 27 rfl) (by decide) (td kLw_7 28 rfl) (td kLw_7 29 rfl) ?_
  refine LX_arg (pc := 806) (k := 2) (j := j) (by omega) hL rfl rfl (td kLw_7 30 rfl) (td kLw_7 31 rfl) (td kLw_7 32 rfl) (by decide) (td kLw_7 33 rfl) (td kLw_7 34 rfl) ?_
  refine LX_calli (pc := 812) (As := [.int (xs (j + 1)), .int (xs (j + 2))]) (st := []) c1 mkX11_meet lk_L_114 (by decide) rfl (fun _ => rfl) rfl (Nat.le_of_ble_eq_true rfl) (td kLw_7 35 rfl) ?_
  refine LX_aload_n (pc := 815) (td kLw_7 36 rfl) rfl 2 rfl ?_
  refine LX_arg (pc := 816) (k := 1) (j := j) (by omega) hL rfl rfl (td kLw_7 37 rfl) (td kLw_7 38 rfl) (td kLw_7 39 rfl) (by decide) (td kLw_7 40 rfl) (td kLw_7 41 rfl) ?_
  refine LX_arg (pc := 822) (k := 2) (j := j) (by omega) hL rfl rfl (td kLw_7 42 rfl) (td kLw_7 43 rfl) (td kLw_7 44 rfl) (by decide) (td kLw_7 45 rfl) (td kLw_7 46 rfl) ?_
  refine LX_mcalli (pc := 828) (As := [.int (xs (j + 1)), .int (xs (j + 2))]) (st := [.int r]) c2 mkX12_meet lk_L_117 (by decide) rfl (fun _ => rfl) rfl (Nat.le_of_ble_eq_true rfl) (td kLw_7 47 rfl) ?_
  refine LX_eqr (pc := 831) (tgt := 1277) (td kLw_7 48 rfl) (by decide) rfl ?_
  exact nx σ' μ' hi
set_option maxHeartbeats 1000000 in
theorem lw_c22 {L : Nat} {xs : Nat → Int32} {g j : Nat} {σ μ : Mm} {ov : Nat → Int64} (hj : j + 7 ≤ L) (hL : L ≤ 3584) (h : Iv σ μ) (nx : ∀ σ' μ', Iv σ' μ' → LX L xs g 1277 (lws j) [] σ' μ' ov) : LX L xs g 836 (lws j) [] σ μ ov := by
  obtain ⟨r, σ', μ', e1, e2, hi⟩ := v_thief h 
  have c1 := x_X11_thief  σ
  have c2 := x_X12_thief  μ
  rw [e1] at c1
  rw [e2] at c2
  refine LX_aload_n (pc := 836) (td kLw_7 51 rfl) rfl 1 rfl ?_
  refine LX_calli (pc := 837) (As := []) (st := []) c1 mkX11_thief lk_L_118 (by decide) rfl (fun _ => rfl) rfl (Nat.le_of_ble_eq_true rfl) (td kLw_7 52 rfl) ?_
  refine LX_aload_n (pc := 840) (td kLw_7 53 rfl) rfl 2 rfl ?_
  refine LX_mcalli (pc := 841) (As := []) (st := [.int r]) c2 mkX12_thief lk_L_121 (by decide) rfl (fun _ => rfl) rfl (Nat.le_of_ble_eq_true rfl) (td kLw_7 54 rfl) ?_
  refine LX_eqr (pc := 844) (tgt := 1277) (td kLw_7 55 rfl) (by decide) rfl ?_
  exact nx σ' μ' hi
set_option maxHeartbeats 1000000 in
theorem lw_c23 {L : Nat} {xs : Nat → Int32} {g j : Nat} {σ μ : Mm} {ov : Nat → Int64} (hj : j + 7 ≤ L) (hL : L ≤ 3584) (h : Iv σ μ) (nx : ∀ σ' μ', Iv σ' μ' → LX L xs g 1277 (lws j) [] σ' μ' ov) : LX L xs g 849 (lws j) [] σ μ ov := by
  obtain ⟨r, σ', μ', e1, e2, hi⟩ := v_watch h ((xs (j + 1))) ((xs (j + 2))) ((if (xs (j + 3)) = 0 then 0 else 1)) (by split; exact Or.inl rfl; exact Or.inr rfl)
  have c1 := x_X11_watch ((xs (j + 1))) ((xs (j + 2))) ((if (xs (j + 3)) = 0 then 0 else 1)) σ
  have c2 := x_X12_watch ((xs (j + 1))) ((xs (j + 2))) ((if (xs (j + 3)) = 0 then 0 else 1)) μ
  rw [e1] at c1
  rw [e2] at c2
  refine LX_aload_n (pc := 849) (td kLw_7 58 rfl) rfl 1 rfl ?_
  refine LX_arg (pc := 850) (k := 1) (j := j) (by omega) hL rfl rfl (td kLw_7 59 rfl) (td kLw_8 0 rfl) (td kLw_8 1 rfl) (by decide) (td kLw_8 2 rfl) (td kLw_8 3 rfl) ?_
  refine LX_arg (pc := 856) (k := 2) (j := j) (by omega) hL rfl rfl (td kLw_8 4 rfl) (td kLw_8 5 rfl) (td kLw_8 6 rfl) (by decide) (td kLw_8 7 rfl) (td kLw_8 8 rfl) ?_
  refine LX_arg (pc := 862) (k := 3) (j := j) (by omega) hL rfl rfl (td kLw_8 9 rfl) (td kLw_8 10 rfl) (td kLw_8 11 rfl) (by decide) (td kLw_8 12 rfl) (td kLw_8 13 rfl) ?_
  refine LX_b01 (pc := 868) (td kLw_8 14 rfl) (td kLw_8 15 rfl) (td kLw_8 16 rfl) (td kLw_8 17 rfl) ?_
  refine LX_calli (pc := 876) (As := [.int (xs (j + 1)), .int (xs (j + 2)), .int (if (xs (j + 3)) = 0 then 0 else 1)]) (st := []) c1 mkX11_watch lk_L_122 (by decide) rfl (fun _ => rfl) rfl (Nat.le_of_ble_eq_true rfl) (td kLw_8 18 rfl) ?_
  refine LX_aload_n (pc := 879) (td kLw_8 19 rfl) rfl 2 rfl ?_
  refine LX_arg (pc := 880) (k := 1) (j := j) (by omega) hL rfl rfl (td kLw_8 20 rfl) (td kLw_8 21 rfl) (td kLw_8 22 rfl) (by decide) (td kLw_8 23 rfl) (td kLw_8 24 rfl) ?_
  refine LX_arg (pc := 886) (k := 2) (j := j) (by omega) hL rfl rfl (td kLw_8 25 rfl) (td kLw_8 26 rfl) (td kLw_8 27 rfl) (by decide) (td kLw_8 28 rfl) (td kLw_8 29 rfl) ?_
  refine LX_arg (pc := 892) (k := 3) (j := j) (by omega) hL rfl rfl (td kLw_8 30 rfl) (td kLw_8 31 rfl) (td kLw_8 32 rfl) (by decide) (td kLw_8 33 rfl) (td kLw_8 34 rfl) ?_
  refine LX_b01 (pc := 898) (td kLw_8 35 rfl) (td kLw_8 36 rfl) (td kLw_8 37 rfl) (td kLw_8 38 rfl) ?_
  refine LX_mcalli (pc := 906) (As := [.int (xs (j + 1)), .int (xs (j + 2)), .int (if (xs (j + 3)) = 0 then 0 else 1)]) (st := [.int r]) c2 mkX12_watch lk_L_126 (by decide) rfl (fun _ => rfl) rfl (Nat.le_of_ble_eq_true rfl) (td kLw_8 39 rfl) ?_
  refine LX_eqr (pc := 909) (tgt := 1277) (td kLw_8 40 rfl) (by decide) rfl ?_
  exact nx σ' μ' hi
set_option maxHeartbeats 1000000 in
theorem lw_c24 {L : Nat} {xs : Nat → Int32} {g j : Nat} {σ μ : Mm} {ov : Nat → Int64} (hj : j + 7 ≤ L) (hL : L ≤ 3584) (h : Iv σ μ) (nx : ∀ σ' μ', Iv σ' μ' → LX L xs g 1277 (lws j) [] σ' μ' ov) : LX L xs g 914 (lws j) [] σ μ ov := by
  obtain ⟨r, σ', μ', e1, e2, hi⟩ := v_sets h ((xs (j + 1)))
  have c1 := x_X11_sets ((xs (j + 1))) σ
  have c2 := x_X12_sets ((xs (j + 1))) μ
  rw [e1] at c1
  rw [e2] at c2
  refine LX_aload_n (pc := 914) (td kLw_8 43 rfl) rfl 1 rfl ?_
  refine LX_arg (pc := 915) (k := 1) (j := j) (by omega) hL rfl rfl (td kLw_8 44 rfl) (td kLw_8 45 rfl) (td kLw_8 46 rfl) (by decide) (td kLw_8 47 rfl) (td kLw_8 48 rfl) ?_
  refine LX_calli (pc := 921) (As := [.int (xs (j + 1))]) (st := []) c1 mkX11_sets lk_L_127 (by decide) rfl (fun _ => rfl) rfl (Nat.le_of_ble_eq_true rfl) (td kLw_8 49 rfl) ?_
  refine LX_aload_n (pc := 924) (td kLw_8 50 rfl) rfl 2 rfl ?_
  refine LX_arg (pc := 925) (k := 1) (j := j) (by omega) hL rfl rfl (td kLw_8 51 rfl) (td kLw_8 52 rfl) (td kLw_8 53 rfl) (by decide) (td kLw_8 54 rfl) (td kLw_8 55 rfl) ?_
  refine LX_mcalli (pc := 931) (As := [.int (xs (j + 1))]) (st := [.int r]) c2 mkX12_sets lk_L_130 (by decide) rfl (fun _ => rfl) rfl (Nat.le_of_ble_eq_true rfl) (td kLw_8 56 rfl) ?_
  refine LX_eqr (pc := 934) (tgt := 1277) (td kLw_8 57 rfl) (by decide) rfl ?_
  exact nx σ' μ' hi
set_option maxHeartbeats 1000000 in
theorem lw_c25 {L : Nat} {xs : Nat → Int32} {g j : Nat} {σ μ : Mm} {ov : Nat → Int64} (hj : j + 7 ≤ L) (hL : L ≤ 3584) (h : Iv σ μ) (nx : ∀ σ' μ', Iv σ' μ' → LX L xs g 1277 (lws j) [] σ' μ' ov) : LX L xs g 939 (lws j) [] σ μ ov := by
  obtain ⟨r, σ', μ', e1, e2, hi⟩ := v_look h ((xs (j + 1)))
  have c1 := x_X11_look ((xs (j + 1))) σ
  have c2 := x_X12_look ((xs (j + 1))) μ
  rw [e1] at c1
  rw [e2] at c2
  refine LX_aload_n (pc := 939) (td kLw_9 0 rfl) rfl 1 rfl ?_
  refine LX_arg (pc := 940) (k := 1) (j := j) (by omega) hL rfl rfl (td kLw_9 1 rfl) (td kLw_9 2 rfl) (td kLw_9 3 rfl) (by decide) (td kLw_9 4 rfl) (td kLw_9 5 rfl) ?_
  refine LX_calli (pc := 946) (As := [.int (xs (j + 1))]) (st := []) c1 mkX11_look lk_L_131 (by decide) rfl (fun _ => rfl) rfl (Nat.le_of_ble_eq_true rfl) (td kLw_9 6 rfl) ?_
  refine LX_aload_n (pc := 949) (td kLw_9 7 rfl) rfl 2 rfl ?_
  refine LX_arg (pc := 950) (k := 1) (j := j) (by omega) hL rfl rfl (td kLw_9 8 rfl) (td kLw_9 9 rfl) (td kLw_9 10 rfl) (by decide) (td kLw_9 11 rfl) (td kLw_9 12 rfl) ?_
  refine LX_mcalli (pc := 956) (As := [.int (xs (j + 1))]) (st := [.int r]) c2 mkX12_look lk_L_134 (by decide) rfl (fun _ => rfl) rfl (Nat.le_of_ble_eq_true rfl) (td kLw_9 13 rfl) ?_
  refine LX_eqr (pc := 959) (tgt := 1277) (td kLw_9 14 rfl) (by decide) rfl ?_
  exact nx σ' μ' hi
set_option maxHeartbeats 1000000 in
theorem lw_c26 {L : Nat} {xs : Nat → Int32} {g j : Nat} {σ μ : Mm} {ov : Nat → Int64} (hj : j + 7 ≤ L) (hL : L ≤ 3584) (h : Iv σ μ) (nx : ∀ σ' μ', Iv σ' μ' → LX L xs g 1277 (lws j) [] σ' μ' ov) : LX L xs g 964 (lws j) [] σ μ ov := by
  obtain ⟨r, σ', μ', e1, e2, hi⟩ := v_oil h 
  have c1 := x_X11_oil  σ
  have c2 := x_X12_oil  μ
  rw [e1] at c1
  rw [e2] at c2
  refine LX_aload_n (pc := 964) (td kLw_9 17 rfl) rfl 1 rfl ?_
  refine LX_calli (pc := 965) (As := []) (st := []) c1 mkX11_oil lk_L_135 (by decide) rfl (fun _ => rfl) rfl (Nat.le_of_ble_eq_true rfl) (td kLw_9 18 rfl) ?_
  refine LX_aload_n (pc := 968) (td kLw_9 19 rfl) rfl 2 rfl ?_
  refine LX_mcalli (pc := 969) (As := []) (st := [.int r]) c2 mkX12_oil lk_L_138 (by decide) rfl (fun _ => rfl) rfl (Nat.le_of_ble_eq_true rfl) (td kLw_9 20 rfl) ?_
  refine LX_eqr (pc := 972) (tgt := 1277) (td kLw_9 21 rfl) (by decide) rfl ?_
  exact nx σ' μ' hi
set_option maxHeartbeats 1000000 in
theorem lw_c28 {L : Nat} {xs : Nat → Int32} {g j : Nat} {σ μ : Mm} {ov : Nat → Int64} (hj : j + 7 ≤ L) (hL : L ≤ 3584) (h : Iv σ μ) (nx : ∀ σ' μ', Iv σ' μ' → LX L xs g 1277 (lws j) [] σ' μ' ov) : LX L xs g 1033 (lws j) [] σ μ ov := by
  obtain ⟨r, σ', μ', e1, e2, hi⟩ := v_longer h ((xs (j + 1)))
  have c1 := x_X11_longer ((xs (j + 1))) σ
  have c2 := x_X12_longer ((xs (j + 1))) μ
  rw [e1] at c1
  rw [e2] at c2
  refine LX_aload_n (pc := 1033) (td kLw_9 59 rfl) rfl 1 rfl ?_
  refine LX_arg (pc := 1034) (k := 1) (j := j) (by omega) hL rfl rfl (td kLw_10 0 rfl) (td kLw_10 1 rfl) (td kLw_10 2 rfl) (by decide) (td kLw_10 3 rfl) (td kLw_10 4 rfl) ?_
  refine LX_calli (pc := 1040) (As := [.int (xs (j + 1))]) (st := []) c1 mkX11_longer lk_L_148 (by decide) rfl (fun _ => rfl) rfl (Nat.le_of_ble_eq_true rfl) (td kLw_10 5 rfl) ?_
  refine LX_aload_n (pc := 1043) (td kLw_10 6 rfl) rfl 2 rfl ?_
  refine LX_arg (pc := 1044) (k := 1) (j := j) (by omega) hL rfl rfl (td kLw_10 7 rfl) (td kLw_10 8 rfl) (td kLw_10 9 rfl) (by decide) (td kLw_10 10 rfl) (td kLw_10 11 rfl) ?_
  refine LX_mcalli (pc := 1050) (As := [.int (xs (j + 1))]) (st := [.int r]) c2 mkX12_longer lk_L_151 (by decide) rfl (fun _ => rfl) rfl (Nat.le_of_ble_eq_true rfl) (td kLw_10 12 rfl) ?_
  refine LX_eqr (pc := 1053) (tgt := 1277) (td kLw_10 13 rfl) (by decide) rfl ?_
  exact nx σ' μ' hi
set_option maxHeartbeats 1000000 in
theorem lw_c30 {L : Nat} {xs : Nat → Int32} {g j : Nat} {σ μ : Mm} {ov : Nat → Int64} (hj : j + 7 ≤ L) (hL : L ≤ 3584) (h : Iv σ μ) (nx : ∀ σ' μ', Iv σ' μ' → LX L xs g 1277 (lws j) [] σ' μ' ov) : LX L xs g 1150 (lws j) [] σ μ ov := by
  obtain ⟨r, σ', μ', e1, e2, hi⟩ := v_nights h ((xs (j + 1))) ((xs (j + 2))) ((xs (j + 3)))
  have c1 := x_X11_nights ((xs (j + 1))) ((xs (j + 2))) ((xs (j + 3))) σ
  have c2 := x_X12_nights ((xs (j + 1))) ((xs (j + 2))) ((xs (j + 3))) μ
  rw [e1] at c1
  rw [e2] at c2
  refine LX_aload_n (pc := 1150) (td kLw_11 21 rfl) rfl 1 rfl ?_
  refine LX_arg (pc := 1151) (k := 1) (j := j) (by omega) hL rfl rfl (td kLw_11 22 rfl) (td kLw_11 23 rfl) (td kLw_11 24 rfl) (by decide) (td kLw_11 25 rfl) (td kLw_11 26 rfl) ?_
  refine LX_arg (pc := 1157) (k := 2) (j := j) (by omega) hL rfl rfl (td kLw_11 27 rfl) (td kLw_11 28 rfl) (td kLw_11 29 rfl) (by decide) (td kLw_11 30 rfl) (td kLw_11 31 rfl) ?_
  refine LX_arg (pc := 1163) (k := 3) (j := j) (by omega) hL rfl rfl (td kLw_11 32 rfl) (td kLw_11 33 rfl) (td kLw_11 34 rfl) (by decide) (td kLw_11 35 rfl) (td kLw_11 36 rfl) ?_
  refine LX_calli (pc := 1169) (As := [.int (xs (j + 1)), .int (xs (j + 2)), .int (xs (j + 3))]) (st := []) c1 mkX11_nights lk_L_156 (by decide) rfl (fun _ => rfl) rfl (Nat.le_of_ble_eq_true rfl) (td kLw_11 37 rfl) ?_
  refine LX_aload_n (pc := 1172) (td kLw_11 38 rfl) rfl 2 rfl ?_
  refine LX_arg (pc := 1173) (k := 1) (j := j) (by omega) hL rfl rfl (td kLw_11 39 rfl) (td kLw_11 40 rfl) (td kLw_11 41 rfl) (by decide) (td kLw_11 42 rfl) (td kLw_11 43 rfl) ?_
  refine LX_arg (pc := 1179) (k := 2) (j := j) (by omega) hL rfl rfl (td kLw_11 44 rfl) (td kLw_11 45 rfl) (td kLw_11 46 rfl) (by decide) (td kLw_11 47 rfl) (td kLw_11 48 rfl) ?_
  refine LX_arg (pc := 1185) (k := 3) (j := j) (by omega) hL rfl rfl (td kLw_11 49 rfl) (td kLw_11 50 rfl) (td kLw_11 51 rfl) (by decide) (td kLw_11 52 rfl) (td kLw_11 53 rfl) ?_
  refine LX_mcalli (pc := 1191) (As := [.int (xs (j + 1)), .int (xs (j + 2)), .int (xs (j + 3))]) (st := [.int r]) c2 mkX12_nights lk_L_160 (by decide) rfl (fun _ => rfl) rfl (Nat.le_of_ble_eq_true rfl) (td kLw_11 54 rfl) ?_
  refine LX_eqr (pc := 1194) (tgt := 1277) (td kLw_11 55 rfl) (by decide) rfl ?_
  exact nx σ' μ' hi
set_option maxHeartbeats 1000000 in
theorem lw_c31 {L : Nat} {xs : Nat → Int32} {g j : Nat} {σ μ : Mm} {ov : Nat → Int64} (hj : j + 7 ≤ L) (hL : L ≤ 3584) (h : Iv σ μ) (nx : ∀ σ' μ', Iv σ' μ' → LX L xs g 1277 (lws j) [] σ' μ' ov) : LX L xs g 1199 (lws j) [] σ μ ov := by
  obtain ⟨r, σ', μ', e1, e2, hi⟩ := v_mark h ((xs (j + 1))) ((if (xs (j + 2)) = 0 then 0 else 1))
  have c1 := x_X11_mark ((xs (j + 1))) ((if (xs (j + 2)) = 0 then 0 else 1)) σ
  have c2 := x_X12_mark ((xs (j + 1))) ((if (xs (j + 2)) = 0 then 0 else 1)) μ
  rw [e1] at c1
  rw [e2] at c2
  refine LX_aload_n (pc := 1199) (td kLw_11 58 rfl) rfl 1 rfl ?_
  refine LX_arg (pc := 1200) (k := 1) (j := j) (by omega) hL rfl rfl (td kLw_11 59 rfl) (td kLw_12 0 rfl) (td kLw_12 1 rfl) (by decide) (td kLw_12 2 rfl) (td kLw_12 3 rfl) ?_
  refine LX_arg (pc := 1206) (k := 2) (j := j) (by omega) hL rfl rfl (td kLw_12 4 rfl) (td kLw_12 5 rfl) (td kLw_12 6 rfl) (by decide) (td kLw_12 7 rfl) (td kLw_12 8 rfl) ?_
  refine LX_b01 (pc := 1212) (td kLw_12 9 rfl) (td kLw_12 10 rfl) (td kLw_12 11 rfl) (td kLw_12 12 rfl) ?_
  refine LX_calli (pc := 1220) (As := [.int (xs (j + 1)), .int (if (xs (j + 2)) = 0 then 0 else 1)]) (st := []) c1 mkX11_mark lk_L_161 (by decide) rfl (fun _ => rfl) rfl (Nat.le_of_ble_eq_true rfl) (td kLw_12 13 rfl) ?_
  refine LX_aload_n (pc := 1223) (td kLw_12 14 rfl) rfl 2 rfl ?_
  refine LX_arg (pc := 1224) (k := 1) (j := j) (by omega) hL rfl rfl (td kLw_12 15 rfl) (td kLw_12 16 rfl) (td kLw_12 17 rfl) (by decide) (td kLw_12 18 rfl) (td kLw_12 19 rfl) ?_
  refine LX_arg (pc := 1230) (k := 2) (j := j) (by omega) hL rfl rfl (td kLw_12 20 rfl) (td kLw_12 21 rfl) (td kLw_12 22 rfl) (by decide) (td kLw_12 23 rfl) (td kLw_12 24 rfl) ?_
  refine LX_b01 (pc := 1236) (td kLw_12 25 rfl) (td kLw_12 26 rfl) (td kLw_12 27 rfl) (td kLw_12 28 rfl) ?_
  refine LX_mcalli (pc := 1244) (As := [.int (xs (j + 1)), .int (if (xs (j + 2)) = 0 then 0 else 1)]) (st := [.int r]) c2 mkX12_mark lk_L_165 (by decide) rfl (fun _ => rfl) rfl (Nat.le_of_ble_eq_true rfl) (td kLw_12 29 rfl) ?_
  refine LX_eqr (pc := 1247) (tgt := 1277) (td kLw_12 30 rfl) (by decide) rfl ?_
  exact nx σ' μ' hi
set_option maxHeartbeats 1000000 in
theorem lw_c32 {L : Nat} {xs : Nat → Int32} {g j : Nat} {σ μ : Mm} {ov : Nat → Int64} (hj : j + 7 ≤ L) (hL : L ≤ 3584) (h : Iv σ μ) (nx : ∀ σ' μ', Iv σ' μ' → LX L xs g 1277 (lws j) [] σ' μ' ov) : LX L xs g 1252 (lws j) [] σ μ ov := by
  obtain ⟨r, σ', μ', e1, e2, hi⟩ := v_count h ((xs (j + 1)))
  have c1 := x_X11_count ((xs (j + 1))) σ
  have c2 := x_X12_count ((xs (j + 1))) μ
  rw [e1] at c1
  rw [e2] at c2
  refine LX_aload_n (pc := 1252) (td kLw_12 33 rfl) rfl 1 rfl ?_
  refine LX_arg (pc := 1253) (k := 1) (j := j) (by omega) hL rfl rfl (td kLw_12 34 rfl) (td kLw_12 35 rfl) (td kLw_12 36 rfl) (by decide) (td kLw_12 37 rfl) (td kLw_12 38 rfl) ?_
  refine LX_calli (pc := 1259) (As := [.int (xs (j + 1))]) (st := []) c1 mkX11_count lk_L_166 (by decide) rfl (fun _ => rfl) rfl (Nat.le_of_ble_eq_true rfl) (td kLw_12 39 rfl) ?_
  refine LX_aload_n (pc := 1262) (td kLw_12 40 rfl) rfl 2 rfl ?_
  refine LX_arg (pc := 1263) (k := 1) (j := j) (by omega) hL rfl rfl (td kLw_12 41 rfl) (td kLw_12 42 rfl) (td kLw_12 43 rfl) (by decide) (td kLw_12 44 rfl) (td kLw_12 45 rfl) ?_
  refine LX_mcalli (pc := 1269) (As := [.int (xs (j + 1))]) (st := [.int r]) c2 mkX12_count lk_L_169 (by decide) rfl (fun _ => rfl) rfl (Nat.le_of_ble_eq_true rfl) (td kLw_12 46 rfl) ?_
  refine LX_eqr (pc := 1272) (tgt := 1277) (td kLw_12 47 rfl) (by decide) rfl ?_
  exact nx σ' μ' hi
