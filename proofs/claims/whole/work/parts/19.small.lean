theorem s_refuse {l : Launch} {X : ZX} {M : ZM} {why : Int} : zCi l X 0 yX11_refuse tX11_refuse [zr 0, zi why] M (fun a M' => a = -1 ∧ M' = zset M 0 2 why) := by
  refine zC.of [some (zr 0), some (zi why)] (by decide +kernel) rfl rfl (Nat.le_of_ble_eq_true rfl) rfl ?_
  refine p_aload_n 1 dX11_refuse_0 rfl rfl (by decide) ?_
  refine p_iload_n 2 dX11_refuse_1 rfl rfl ?_
  refine p_putI 0 5 dX11_refuse_2 wX11_111 rfl ?_
  refine p_iconst 6 dX11_refuse_5 ?_
  refine p_iret dX11_refuse_6 rfl ?_
  exact ⟨_, rfl, rfl, rfl⟩
theorem s_grant {l : Launch} {X : ZX} {M : ZM} {v : Int} : zCi l X 0 yX11_grant tX11_grant [zr 0, zi v] M (fun a M' => a = v ∧ M' = zset M 0 2 0) := by
  refine zC.of [some (zr 0), some (zi v)] (by decide +kernel) rfl rfl (Nat.le_of_ble_eq_true rfl) rfl ?_
  refine p_aload_n 1 dX11_grant_0 rfl rfl (by decide) ?_
  refine p_iconst 2 dX11_grant_1 ?_
  refine p_putI 0 5 dX11_grant_2 wX11_111 rfl ?_
  refine p_iload_n 6 dX11_grant_5 rfl rfl ?_
  refine p_iret dX11_grant_6 rfl ?_
  exact ⟨_, rfl, rfl, rfl⟩
theorem s_bit {l : Launch} {X : ZX} {M : ZM} {i : Int} : zCi l X 0 yX11_bit tX11_bit [zi i] M (fun a M' => a = z_ishl 1 i ∧ M' = M) := by
  refine zC.of [some (zi i)] (by decide +kernel) rfl rfl (Nat.le_of_ble_eq_true rfl) rfl ?_
  refine p_iconst 1 dX11_bit_0 ?_
  refine p_iload_n 2 dX11_bit_1 rfl rfl ?_
  refine p_ishl 3 dX11_bit_2 ?_
  refine p_iret dX11_bit_3 rfl ?_
  exact ⟨_, rfl, rfl, rfl⟩
theorem s_in {l : Launch} {X : ZX} {M : ZM} {v lo hi : Int} (h1 : -2147483648 ≤ v) (h2 : v < 2147483648) (h3 : -2147483648 ≤ lo) (h4 : lo < 2147483648) (h5 : -2147483648 ≤ hi) (h6 : hi < 2147483648) : zCi l X 0 yX12_in tX12_in [zi v, zi lo, zi hi] M (fun a M' => a = (if lo ≤ v ∧ v ≤ hi then 1 else 0) ∧ M' = M) := by
  refine zC.of [some (zi v), some (zi lo), some (zi hi)] (by decide +kernel) rfl rfl (Nat.le_of_ble_eq_true rfl) rfl ?_
  refine p_iload_n 1 dX12_in_0 rfl rfl ?_
  refine p_iload_n 2 dX12_in_1 rfl rfl ?_
  refine p_icmp_lt 14 5 dX12_in_2 (by omega) (by omega) (by omega) (by omega) (fun h2 => ?_) (fun h2 => ?_)
  · refine p_iconst 15 dX12_in_14 ?_
    refine p_zret dX12_in_15 rfl (by decide) ?_
    refine ⟨_, rfl, ?_, rfl⟩
    first | (rw [if_pos (by omega)]; done) | (rw [if_neg (by omega)]; done)
  · refine p_iload_n 6 dX12_in_5 rfl rfl ?_
    refine p_iload_n 7 dX12_in_6 rfl rfl ?_
    refine p_icmp_gt 14 10 dX12_in_7 (by omega) (by omega) (by omega) (by omega) (fun h7 => ?_) (fun h7 => ?_)
    · refine p_iconst 15 dX12_in_14 ?_
      refine p_zret dX12_in_15 rfl (by decide) ?_
      refine ⟨_, rfl, ?_, rfl⟩
      first | (rw [if_pos (by omega)]; done) | (rw [if_neg (by omega)]; done)
    · refine p_iconst 11 dX12_in_10 ?_
      refine p_goto 15 dX12_in_11 ?_
      refine p_zret dX12_in_15 rfl (by decide) ?_
      refine ⟨_, rfl, ?_, rfl⟩
      first | (rw [if_pos (by omega)]; done) | (rw [if_neg (by omega)]; done)
