noncomputable def sX4_isEmpty (k : Nat) (s : xS) : Option (Int32 × xS) := xlet ((if (s k 0) = 0 then (1 : Int32) else (0 : Int32))) (fun y12d => (if y12d = 0 ∨ y12d = 1 then some (y12d, s) else none))
set_option maxHeartbeats 4000000 in
set_option maxRecDepth 100000 in
theorem kX4_isEmpty (l : Launch) {G : xG} (hG : xC1 G)  {k : Nat} (hk : k ∈ lLaw) {s : xS} {r : Int32} {s' : xS} (hf : sX4_isEmpty k s = some (r, s')) : xMet l G 2 yX4_isEmpty cX4_isEmpty 1 (some .boolean) [.ref (gA G k)] s (xI r s') := by
  refine xMet.of (by decide) (Nat.le_of_ble_eq_true rfl) ?_
  show wk l G 2 RX4 cX4_isEmpty 1 (some .boolean) (xI r s') 0 [(0, .ref (gA G k))] [] s
  unfold sX4_isEmpty at hf
  refine wk_aload_n (pc := 0) dX4_isEmpty_0 rfl 0 rfl ?_
  refine wk_getI (C := RX4) (T := TX4) (N := 3) (pc := 1) dX4_isEmpty_1 (sX4_0 hG hk).2 (sX4_0 hG hk).1 rfl qU_X4 0 (by decide) qF_X4_9 rfl ?_
  obtain ⟨y12d, hy12d, hf⟩ := xlet_some hf
  have K12 : wk l G 2 RX4 cX4_isEmpty 1 (some .boolean) (xI r s') 12 [(0, .ref (gA G k))] [.int y12d] s := by
    obtain ⟨h12, hf⟩ := xif_some hf
    exact wk_zret (pc := 12) dX4_isEmpty_12 rfl (x01n h12) (xI_of hf)
  by_cases c4 : (s k 0) = 0
  · rw [if_pos c4] at hy12d
    refine wk_if_ne_p (pc := 4) (tgt := 11) dX4_isEmpty_4 rfl c4 ?_
    refine wk_iconst (pc := 7) (v := (1 : Int32)) dX4_isEmpty_7 (by decide) ?_
    refine wk_goto (pc := 8) (tgt := 12) dX4_isEmpty_8 rfl ?_
    exact wk_top hy12d K12
  · rw [if_neg c4] at hy12d
    refine wk_if_ne_m (pc := 4) (tgt := 11) dX4_isEmpty_4 rfl c4 ?_
    refine wk_iconst (pc := 11) (v := (0 : Int32)) dX4_isEmpty_11 (by decide) ?_
    exact wk_top hy12d K12
noncomputable def sX4_joined (p0 : Int32) (p1 : Int32) (p2 : Int32) (s : xS) : Option (Int32 × xS) := (if p0 = 38 then xlet ((if p1 = 0 then (0 : Int32) else (if p2 = 0 then (0 : Int32) else (1 : Int32)))) (fun y111d => some (y111d, s)) else (if p0 = 42 then some ((p1 * p2), s) else (if p0 = 43 then some ((p1 + p2), s) else (if p0 = 45 then some ((p1 - p2), s) else (if p0 = 47 then (if p2 = 0 then some ((0 : Int32), s) else (if p2 = 0 then none else some ((p1 / p2), s))) else (if p0 = 60 then xlet ((if p2 ≤ p1 then (0 : Int32) else (1 : Int32))) (fun y122d => some (y122d, s)) else (if p0 = 61 then xlet ((if p1 = p2 then (1 : Int32) else (0 : Int32))) (fun y133d => some (y133d, s)) else (if p0 = 62 then xlet ((if p1 ≤ p2 then (0 : Int32) else (1 : Int32))) (fun y144d => some (y144d, s)) else (if p0 = 124 then xlet ((if p1 = 0 then (if p2 = 0 then (0 : Int32) else (1 : Int32)) else (1 : Int32))) (fun y97d => some (y97d, s)) else (if p2 = 0 then some ((0 : Int32), s) else (if p2 = 0 then none else some ((p1 - p1 / p2 * p2), s))))))))))))
set_option maxHeartbeats 4000000 in
set_option maxRecDepth 100000 in
theorem kX4_joined (l : Launch) {G : xG} (hG : xC1 G)  {p0 : Int32} {p1 : Int32} {p2 : Int32}  {s : xS} {r : Int32} {s' : xS} (hf : sX4_joined p0 p1 p2 s = some (r, s')) : xMet l G 2 yX4_joined cX4_joined 3 (some .int) [.int p0, .int p1, .int p2] s (xI r s') := by
  refine xMet.of (by decide) (Nat.le_of_ble_eq_true rfl) ?_
  show wk l G 2 RX4 cX4_joined 3 (some .int) (xI r s') 0 [(0, .int p0), (1, .int p1), (2, .int p2)] [] s
  unfold sX4_joined at hf
  refine wk_iload_n (pc := 0) dX4_joined_0 rfl 0 rfl ?_
  by_cases e0 : p0 = 38
  · rw [if_pos e0] at hf
    refine wk_lookup (pc := 1) (off := 97) (tgt := 98) dX4_joined_1 (by decide) (by rw [e0]; decide) rfl ?_
    refine wk_iload_n (pc := 98) dX4_joined_98 rfl 1 rfl ?_
    obtain ⟨y111d, hy111d, hf⟩ := xlet_some hf
    have K111 : wk l G 2 RX4 cX4_joined 3 (some .int) (xI r s') 111 [(0, .int p0), (1, .int p1), (2, .int p2)] [.int y111d] s := by
      exact wk_iret (pc := 111) dX4_joined_111 rfl (xI_of hf)
    by_cases c99 : p1 = 0
    · rw [if_pos c99] at hy111d
      refine wk_if_eq_p (pc := 99) (tgt := 110) dX4_joined_99 rfl c99 ?_
      refine wk_iconst (pc := 110) (v := (0 : Int32)) dX4_joined_110 (by decide) ?_
      exact wk_top hy111d K111
    · rw [if_neg c99] at hy111d
      refine wk_if_eq_m (pc := 99) (tgt := 110) dX4_joined_99 rfl c99 ?_
      refine wk_iload_n (pc := 102) dX4_joined_102 rfl 2 rfl ?_
      by_cases c103 : p2 = 0
      · rw [if_pos c103] at hy111d
        refine wk_if_eq_p (pc := 103) (tgt := 110) dX4_joined_103 rfl c103 ?_
        refine wk_iconst (pc := 110) (v := (0 : Int32)) dX4_joined_110 (by decide) ?_
        exact wk_top hy111d K111
      · rw [if_neg c103] at hy111d
        refine wk_if_eq_m (pc := 103) (tgt := 110) dX4_joined_103 rfl c103 ?_
        refine wk_iconst (pc := 106) (v := (1 : Int32)) dX4_joined_106 (by decide) ?_
        refine wk_goto (pc := 107) (tgt := 111) dX4_joined_107 rfl ?_
        exact wk_top hy111d K111
  · rw [if_neg e0] at hf
    by_cases e1 : p0 = 42
    · rw [if_pos e1] at hf
      refine wk_lookup (pc := 1) (off := 152) (tgt := 153) dX4_joined_1 (by decide) (by rw [e1]; decide) rfl ?_
      refine wk_iload_n (pc := 153) dX4_joined_153 rfl 1 rfl ?_
      refine wk_iload_n (pc := 154) dX4_joined_154 rfl 2 rfl ?_
      refine wk_imul (pc := 155) dX4_joined_155 ?_
      exact wk_iret (pc := 156) dX4_joined_156 rfl (xI_of hf)
    · rw [if_neg e1] at hf
      by_cases e2 : p0 = 43
      · rw [if_pos e2] at hf
        refine wk_lookup (pc := 1) (off := 144) (tgt := 145) dX4_joined_1 (by decide) (by rw [e2]; decide) rfl ?_
        refine wk_iload_n (pc := 145) dX4_joined_145 rfl 1 rfl ?_
        refine wk_iload_n (pc := 146) dX4_joined_146 rfl 2 rfl ?_
        refine wk_iadd (pc := 147) dX4_joined_147 ?_
        exact wk_iret (pc := 148) dX4_joined_148 rfl (xI_of hf)
      · rw [if_neg e2] at hf
        by_cases e3 : p0 = 45
        · rw [if_pos e3] at hf
          refine wk_lookup (pc := 1) (off := 148) (tgt := 149) dX4_joined_1 (by decide) (by rw [e3]; decide) rfl ?_
          refine wk_iload_n (pc := 149) dX4_joined_149 rfl 1 rfl ?_
          refine wk_iload_n (pc := 150) dX4_joined_150 rfl 2 rfl ?_
          refine wk_isub (pc := 151) dX4_joined_151 ?_
          exact wk_iret (pc := 152) dX4_joined_152 rfl (xI_of hf)
        · rw [if_neg e3] at hf
          by_cases e4 : p0 = 47
          · rw [if_pos e4] at hf
            refine wk_lookup (pc := 1) (off := 156) (tgt := 157) dX4_joined_1 (by decide) (by rw [e4]; decide) rfl ?_
            refine wk_iload_n (pc := 157) dX4_joined_157 rfl 2 rfl ?_
            refine wk_if_ne (pc := 158) (tgt := 165) dX4_joined_158 rfl hf (fun hf => ?_) (fun hf => ?_)
            · refine wk_iload_n (pc := 165) dX4_joined_165 rfl 1 rfl ?_
              refine wk_iload_n (pc := 166) dX4_joined_166 rfl 2 rfl ?_
              obtain ⟨h167, hf⟩ := xif_none hf
              refine wk_idiv (pc := 167) dX4_joined_167 h167 ?_
              exact wk_iret (pc := 168) dX4_joined_168 rfl (xI_of hf)
            · refine wk_iconst (pc := 161) (v := (0 : Int32)) dX4_joined_161 (by decide) ?_
              refine wk_goto (pc := 162) (tgt := 168) dX4_joined_162 rfl ?_
              exact wk_iret (pc := 168) dX4_joined_168 rfl (xI_of hf)
          · rw [if_neg e4] at hf
            by_cases e5 : p0 = 60
            · rw [if_pos e5] at hf
              refine wk_lookup (pc := 1) (off := 111) (tgt := 112) dX4_joined_1 (by decide) (by rw [e5]; decide) rfl ?_
              refine wk_iload_n (pc := 112) dX4_joined_112 rfl 1 rfl ?_
              refine wk_iload_n (pc := 113) dX4_joined_113 rfl 2 rfl ?_
              obtain ⟨y122d, hy122d, hf⟩ := xlet_some hf
              have K122 : wk l G 2 RX4 cX4_joined 3 (some .int) (xI r s') 122 [(0, .int p0), (1, .int p1), (2, .int p2)] [.int y122d] s := by
                exact wk_iret (pc := 122) dX4_joined_122 rfl (xI_of hf)
              by_cases c114 : p2 ≤ p1
              · rw [if_pos c114] at hy122d
                refine wk_icmp_ge_p (pc := 114) (tgt := 121) dX4_joined_114 rfl c114 ?_
                refine wk_iconst (pc := 121) (v := (0 : Int32)) dX4_joined_121 (by decide) ?_
                exact wk_top hy122d K122
              · rw [if_neg c114] at hy122d
                refine wk_icmp_ge_m (pc := 114) (tgt := 121) dX4_joined_114 rfl c114 ?_
                refine wk_iconst (pc := 117) (v := (1 : Int32)) dX4_joined_117 (by decide) ?_
                refine wk_goto (pc := 118) (tgt := 122) dX4_joined_118 rfl ?_
                exact wk_top hy122d K122
            · rw [if_neg e5] at hf
              by_cases e6 : p0 = 61
              · rw [if_pos e6] at hf
                refine wk_lookup (pc := 1) (off := 122) (tgt := 123) dX4_joined_1 (by decide) (by rw [e6]; decide) rfl ?_
                refine wk_iload_n (pc := 123) dX4_joined_123 rfl 1 rfl ?_
                refine wk_iload_n (pc := 124) dX4_joined_124 rfl 2 rfl ?_
                obtain ⟨y133d, hy133d, hf⟩ := xlet_some hf
                have K133 : wk l G 2 RX4 cX4_joined 3 (some .int) (xI r s') 133 [(0, .int p0), (1, .int p1), (2, .int p2)] [.int y133d] s := by
                  exact wk_iret (pc := 133) dX4_joined_133 rfl (xI_of hf)
                by_cases c125 : p1 = p2
                · rw [if_pos c125] at hy133d
                  refine wk_icmp_ne_p (pc := 125) (tgt := 132) dX4_joined_125 rfl c125 ?_
                  refine wk_iconst (pc := 128) (v := (1 : Int32)) dX4_joined_128 (by decide) ?_
                  refine wk_goto (pc := 129) (tgt := 133) dX4_joined_129 rfl ?_
                  exact wk_top hy133d K133
                · rw [if_neg c125] at hy133d
                  refine wk_icmp_ne_m (pc := 125) (tgt := 132) dX4_joined_125 rfl c125 ?_
                  refine wk_iconst (pc := 132) (v := (0 : Int32)) dX4_joined_132 (by decide) ?_
                  exact wk_top hy133d K133
              · rw [if_neg e6] at hf
                by_cases e7 : p0 = 62
                · rw [if_pos e7] at hf
                  refine wk_lookup (pc := 1) (off := 133) (tgt := 134) dX4_joined_1 (by decide) (by rw [e7]; decide) rfl ?_
                  refine wk_iload_n (pc := 134) dX4_joined_134 rfl 1 rfl ?_
                  refine wk_iload_n (pc := 135) dX4_joined_135 rfl 2 rfl ?_
                  obtain ⟨y144d, hy144d, hf⟩ := xlet_some hf
                  have K144 : wk l G 2 RX4 cX4_joined 3 (some .int) (xI r s') 144 [(0, .int p0), (1, .int p1), (2, .int p2)] [.int y144d] s := by
                    exact wk_iret (pc := 144) dX4_joined_144 rfl (xI_of hf)
                  by_cases c136 : p1 ≤ p2
                  · rw [if_pos c136] at hy144d
                    refine wk_icmp_le_p (pc := 136) (tgt := 143) dX4_joined_136 rfl c136 ?_
                    refine wk_iconst (pc := 143) (v := (0 : Int32)) dX4_joined_143 (by decide) ?_
                    exact wk_top hy144d K144
                  · rw [if_neg c136] at hy144d
                    refine wk_icmp_le_m (pc := 136) (tgt := 143) dX4_joined_136 rfl c136 ?_
                    refine wk_iconst (pc := 139) (v := (1 : Int32)) dX4_joined_139 (by decide) ?_
                    refine wk_goto (pc := 140) (tgt := 144) dX4_joined_140 rfl ?_
                    exact wk_top hy144d K144
                · rw [if_neg e7] at hf
                  by_cases e8 : p0 = 124
                  · rw [if_pos e8] at hf
                    refine wk_lookup (pc := 1) (off := 83) (tgt := 84) dX4_joined_1 (by decide) (by rw [e8]; decide) rfl ?_
                    refine wk_iload_n (pc := 84) dX4_joined_84 rfl 1 rfl ?_
                    obtain ⟨y97d, hy97d, hf⟩ := xlet_some hf
                    have K97 : wk l G 2 RX4 cX4_joined 3 (some .int) (xI r s') 97 [(0, .int p0), (1, .int p1), (2, .int p2)] [.int y97d] s := by
                      exact wk_iret (pc := 97) dX4_joined_97 rfl (xI_of hf)
                    by_cases c85 : p1 = 0
                    · rw [if_pos c85] at hy97d
                      refine wk_if_ne_p (pc := 85) (tgt := 92) dX4_joined_85 rfl c85 ?_
                      refine wk_iload_n (pc := 88) dX4_joined_88 rfl 2 rfl ?_
                      by_cases c89 : p2 = 0
                      · rw [if_pos c89] at hy97d
                        refine wk_if_eq_p (pc := 89) (tgt := 96) dX4_joined_89 rfl c89 ?_
                        refine wk_iconst (pc := 96) (v := (0 : Int32)) dX4_joined_96 (by decide) ?_
                        exact wk_top hy97d K97
                      · rw [if_neg c89] at hy97d
                        refine wk_if_eq_m (pc := 89) (tgt := 96) dX4_joined_89 rfl c89 ?_
                        refine wk_iconst (pc := 92) (v := (1 : Int32)) dX4_joined_92 (by decide) ?_
                        refine wk_goto (pc := 93) (tgt := 97) dX4_joined_93 rfl ?_
                        exact wk_top hy97d K97
                    · rw [if_neg c85] at hy97d
                      refine wk_if_ne_m (pc := 85) (tgt := 92) dX4_joined_85 rfl c85 ?_
                      refine wk_iconst (pc := 92) (v := (1 : Int32)) dX4_joined_92 (by decide) ?_
                      refine wk_goto (pc := 93) (tgt := 97) dX4_joined_93 rfl ?_
                      exact wk_top hy97d K97
                  · rw [if_neg e8] at hf
                    refine wk_lookup (pc := 1) (tgt := 169) dX4_joined_1 (by decide) ((lv_osw e0 (by decide)).trans ((lv_osw e1 (by decide)).trans ((lv_osw e2 (by decide)).trans ((lv_osw e3 (by decide)).trans ((lv_osw e4 (by decide)).trans ((lv_osw e5 (by decide)).trans ((lv_osw e6 (by decide)).trans ((lv_osw e7 (by decide)).trans ((lv_osw e8 (by decide)).trans (rfl)))))))))) rfl ?_
                    refine wk_iload_n (pc := 169) dX4_joined_169 rfl 2 rfl ?_
                    refine wk_if_ne (pc := 170) (tgt := 177) dX4_joined_170 rfl hf (fun hf => ?_) (fun hf => ?_)
                    · refine wk_iload_n (pc := 177) dX4_joined_177 rfl 1 rfl ?_
                      refine wk_iload_n (pc := 178) dX4_joined_178 rfl 2 rfl ?_
                      obtain ⟨h179, hf⟩ := xif_none hf
                      refine wk_irem (pc := 179) dX4_joined_179 h179 ?_
                      exact wk_iret (pc := 180) dX4_joined_180 rfl (xI_of hf)
                    · refine wk_iconst (pc := 173) (v := (0 : Int32)) dX4_joined_173 (by decide) ?_
                      refine wk_goto (pc := 174) (tgt := 180) dX4_joined_174 rfl ?_
                      exact wk_iret (pc := 180) dX4_joined_180 rfl (xI_of hf)
noncomputable def sX4_value_L164 (a5_6 : Int32) (self6 : Int32 × Int32 → xS → Option (Int32 × xS)) (a4_164 : Int32) (s164 : xS) : Option (Int32 × xS) := xlet (a5_6 + (1 : Int32)) (fun y164 => self6 (a4_164, y164) s164)
noncomputable def sX4_value_L120 (k : Nat) (a4_6 : Int32) (a5_6 : Int32) (self6 : Int32 × Int32 → xS → Option (Int32 × xS)) (y120d : Int32)  (s120 : xS) : Option (Int32 × xS) := (if xin (a4_6 - (1 : Int32)) 50 then xlet (xup s120 (k + 2) (upd (s120 (k + 2)) (a4_6 - (1 : Int32)).toNatClampNeg y120d)) (fun s120b => (sX4_value_L164 a5_6 self6) a4_6 s120b) else none)
noncomputable def sX4_value_L76 (k : Nat) (a4_6 : Int32) (a5_6 : Int32) (self6 : Int32 × Int32 → xS → Option (Int32 × xS)) (y76d : Int32)  (s76 : xS) : Option (Int32 × xS) := (if xin a4_6 50 then xlet (xup s76 (k + 2) (upd (s76 (k + 2)) a4_6.toNatClampNeg y76d)) (fun s76b => xlet (a4_6 + (1 : Int32)) (fun y77 => (sX4_value_L164 a5_6 self6) y77 s76b)) else none)
noncomputable def sX4_value_L6 (k : Nat) (p1 : Int32) (p2 : Int32) (p3 : Int32) (self6 : Int32 × Int32 → xS → Option (Int32 × xS)) : Int32 × Int32 → xS → Option (Int32 × xS) := fun (a4_6, a5_6) s6 => (if (s6 k 0) ≤ a5_6 then (if a4_6 ≤ 0 then some ((0 : Int32), s6) else some ((s6 (k + 2) 0), s6)) else (if xin a5_6 50 then xlet ((s6 (k + 1) a5_6.toNatClampNeg)) (fun y22 => (if y22 < (-3 : Int32) then (if y22 = (-33 : Int32) then (if a4_6 ≤ 0 then (sX4_value_L164 a5_6 self6) a4_6 s6 else (if xin (a4_6 - (1 : Int32)) 50 then xlet ((if (s6 (k + 2) (a4_6 - (1 : Int32)).toNatClampNeg) = 0 then (1 : Int32) else (0 : Int32))) (fun y120d => (sX4_value_L120 k a4_6 a5_6 self6 y120d)  s6) else none)) else (if a4_6 ≤ (1 : Int32) then (sX4_value_L164 a5_6 self6) a4_6 s6 else xlet (a4_6 + (-1 : Int32)) (fun y130 => (if xin (y130 - (1 : Int32)) 50 then (if xin y130 50 then xbind (sX4_joined (-y22) (s6 (k + 2) (y130 - (1 : Int32)).toNatClampNeg) (s6 (k + 2) y130.toNatClampNeg) s6) (fun r160 s160 => (if xin (y130 - (1 : Int32)) 50 then xlet (xup s160 (k + 2) (upd (s160 (k + 2)) (y130 - (1 : Int32)).toNatClampNeg r160)) (fun s163 => (sX4_value_L164 a5_6 self6) y130 s163) else none)) else none) else none)))) else (if (50 : Int32) ≤ a4_6 then (sX4_value_L164 a5_6 self6) a4_6 s6 else xlet ((if y22 < 0 then (if y22 = (-1 : Int32) then p1 else (if y22 = (-3 : Int32) then p3 else p2)) else y22)) (fun y76d => (sX4_value_L76 k a4_6 a5_6 self6 y76d)  s6)))) else none))
noncomputable def sX4_value (k : Nat) (p1 : Int32) (p2 : Int32) (p3 : Int32) (s : xS) : Option (Int32 × xS) := xloop (sX4_value_L6 k p1 p2 p3) xF ((0 : Int32), (0 : Int32)) s
set_option maxHeartbeats 4000000 in
set_option maxRecDepth 100000 in
theorem kX4_value (l : Launch) {G : xG} (hG : xC1 G)  {k : Nat} {p1 : Int32} {p2 : Int32} {p3 : Int32} (hk : k ∈ lLaw) {s : xS} {r : Int32} {s' : xS} (hf : sX4_value k p1 p2 p3 s = some (r, s')) : xMet l G 3 yX4_value cX4_value 7 (some .int) [.ref (gA G k), .int p1, .int p2, .int p3] s (xI r s') := by
  refine xMet.of (by decide) (Nat.le_of_ble_eq_true rfl) ?_
  show wk l G 3 RX4 cX4_value 7 (some .int) (xI r s') 0 [(0, .ref (gA G k)), (1, .int p1), (2, .int p2), (3, .int p3)] [] s
  unfold sX4_value at hf
  have J6 : ∀   (N : Nat) (a4_6 : Int32) (a5_6 : Int32)  (s6 : xS), xloop (sX4_value_L6 k p1 p2 p3) N (a4_6, a5_6) s6 = some (r, s') → wk l G 3 RX4 cX4_value 7 (some .int) (xI r s') 6 [(0, .ref (gA G k)), (1, .int p1), (2, .int p2), (3, .int p3), (4, .int a4_6), (5, .int a5_6)] [] s6 := by
    intro N
    induction N with
    | zero => intro a4_6 a5_6 s6 hf; exact (xloop_0 hf).elim
    | succ N ih6 =>
      intro a4_6 a5_6 s6 hf
      rw [xloop_s] at hf
      generalize xloop (sX4_value_L6 k p1 p2 p3) N = self6 at hf ih6
      unfold sX4_value_L6 at hf
      dsimp only at hf
      have J164 : ∀   (a4_164 : Int32)  (s164 : xS), (sX4_value_L164 a5_6 self6) a4_164 s164 = some (r, s') → wk l G 3 RX4 cX4_value 7 (some .int) (xI r s') 164 [(0, .ref (gA G k)), (1, .int p1), (2, .int p2), (3, .int p3), (4, .int a4_164), (5, .int a5_6)] [] s164 := by
        intro a4_164 s164 hf
        unfold sX4_value_L164 at hf
        obtain ⟨y164, hy164, hf⟩ := xlet_some hf
        refine wk_iinc (pc := 164) (v := y164) (lv' := [(5, .int y164), (0, .ref (gA G k)), (1, .int p1), (2, .int p2), (3, .int p3), (4, .int a4_164)]) dX4_value_164 5 rfl (by rw [hy164] <;> rfl) (by decide) rfl ?_
        refine wk_goto (pc := 167) (tgt := 6) dX4_value_167 rfl ?_
        exact wk_lv [1, 2, 3, 4, 5, 0] rfl (ih6 a4_164 y164  s164 hf)
      have J120 : ∀ (y120d : Int32)    (s120 : xS), (sX4_value_L120 k a4_6 a5_6 self6 y120d)  s120 = some (r, s') → wk l G 3 RX4 cX4_value 7 (some .int) (xI r s') 120 [(0, .ref (gA G k)), (1, .int p1), (2, .int p2), (3, .int p3), (4, .int a4_6), (5, .int a5_6)] [.int y120d, .int (a4_6 - (1 : Int32)), .ref (gA G (k + 2))] s120 := by
        intro y120d s120 hf
        unfold sX4_value_L120 at hf
        obtain ⟨h120, hf⟩ := xif_some hf
        refine wk_iast (pc := 120) (jj := (a4_6 - (1 : Int32)).toNatClampNeg) dX4_value_120 (sX4_2 hG hk).2 (sX4_2 hG hk).1 h120 rfl ?_
        obtain ⟨s120b, hs120b, hf⟩ := xlet_some hf
        refine wk_sig hs120b ?_
        refine wk_goto (pc := 121) (tgt := 164) dX4_value_121 rfl ?_
        exact wk_lv [0, 1, 2, 3, 4, 5] rfl (J164  a4_6  s120b hf)
      have J76 : ∀ (y76d : Int32)    (s76 : xS), (sX4_value_L76 k a4_6 a5_6 self6 y76d)  s76 = some (r, s') → wk l G 3 RX4 cX4_value 7 (some .int) (xI r s') 76 [(0, .ref (gA G k)), (1, .int p1), (2, .int p2), (3, .int p3), (4, .int a4_6), (5, .int a5_6)] [.int y76d, .int a4_6, .ref (gA G (k + 2))] s76 := by
        intro y76d s76 hf
        unfold sX4_value_L76 at hf
        obtain ⟨h76, hf⟩ := xif_some hf
        refine wk_iast (pc := 76) (jj := a4_6.toNatClampNeg) dX4_value_76 (sX4_2 hG hk).2 (sX4_2 hG hk).1 h76 rfl ?_
        obtain ⟨s76b, hs76b, hf⟩ := xlet_some hf
        refine wk_sig hs76b ?_
        obtain ⟨y77, hy77, hf⟩ := xlet_some hf
        refine wk_iinc (pc := 77) (v := y77) (lv' := [(4, .int y77), (0, .ref (gA G k)), (1, .int p1), (2, .int p2), (3, .int p3), (5, .int a5_6)]) dX4_value_77 4 rfl (by rw [hy77] <;> rfl) (by decide) rfl ?_
        refine wk_goto (pc := 80) (tgt := 164) dX4_value_80 rfl ?_
        exact wk_lv [1, 2, 3, 4, 0, 5] rfl (J164  y77  s76b hf)
      refine wk_iload (pc := 6) dX4_value_6 5 rfl ?_
      refine wk_aload_n (pc := 8) dX4_value_8 rfl 0 rfl ?_
      refine wk_getI (C := RX4) (T := TX4) (N := 3) (pc := 9) dX4_value_9 (sX4_0 hG hk).2 (sX4_0 hG hk).1 rfl qU_X4 0 (by decide) qF_X4_9 rfl ?_
      refine wk_icmp_ge (pc := 12) (tgt := 170) dX4_value_12 rfl hf (fun hf => ?_) (fun hf => ?_)
      · refine wk_iload (pc := 170) dX4_value_170 4 rfl ?_
        refine wk_if_le (pc := 172) (tgt := 184) dX4_value_172 rfl hf (fun hf => ?_) (fun hf => ?_)
        · refine wk_iconst (pc := 184) (v := (0 : Int32)) dX4_value_184 (by decide) ?_
          exact wk_iret (pc := 185) dX4_value_185 rfl (xI_of hf)
        · refine wk_aload_n (pc := 175) dX4_value_175 rfl 0 rfl ?_
          refine wk_getR (C := RX4) (T := TX4) (N := 3) (pc := 176) dX4_value_176 (sX4_0 hG hk).2 (sX4_0 hG hk).1 rfl qU_X4 2 (by decide) qF_X4_19 rfl ?_
          refine wk_iconst (pc := 179) (v := (0 : Int32)) dX4_value_179 (by decide) ?_
          refine wk_iald (pc := 180) (jj := 0) dX4_value_180 (sX4_2 hG hk).2 (sX4_2 hG hk).1 (by decide) (by decide) ?_
          refine wk_goto (pc := 181) (tgt := 185) dX4_value_181 rfl ?_
          exact wk_iret (pc := 185) dX4_value_185 rfl (xI_of hf)
      · refine wk_aload_n (pc := 15) dX4_value_15 rfl 0 rfl ?_
        refine wk_getR (C := RX4) (T := TX4) (N := 3) (pc := 16) dX4_value_16 (sX4_0 hG hk).2 (sX4_0 hG hk).1 rfl qU_X4 1 (by decide) qF_X4_15 rfl ?_
        refine wk_iload (pc := 19) dX4_value_19 5 rfl ?_
        obtain ⟨h21, hf⟩ := xif_some hf
        refine wk_iald (pc := 21) (jj := a5_6.toNatClampNeg) dX4_value_21 (sX4_1 hG hk).2 (sX4_1 hG hk).1 h21 rfl ?_
        obtain ⟨y22, hy22, hf⟩ := xlet_some hf
        refine wk_top hy22 ?_
        refine wk_istore (pc := 22) (lv' := [(6, .int y22), (0, .ref (gA G k)), (1, .int p1), (2, .int p2), (3, .int p3), (4, .int a4_6), (5, .int a5_6)]) dX4_value_22 (by decide) rfl ?_
        refine wk_iload (pc := 24) dX4_value_24 0 rfl ?_
        refine wk_bipush (pc := 26) (v := (-3 : Int32)) dX4_value_26 (by decide) ?_
        refine wk_icmp_lt (pc := 28) (tgt := 83) dX4_value_28 rfl hf (fun hf => ?_) (fun hf => ?_)
        · refine wk_iload (pc := 83) dX4_value_83 0 rfl ?_
          refine wk_bipush (pc := 85) (v := (-33 : Int32)) dX4_value_85 (by decide) ?_
          refine wk_icmp_ne (pc := 87) (tgt := 124) dX4_value_87 rfl hf (fun hf => ?_) (fun hf => ?_)
          · refine wk_iload (pc := 124) dX4_value_124 5 rfl ?_
            refine wk_iconst (pc := 126) (v := (1 : Int32)) dX4_value_126 (by decide) ?_
            refine wk_icmp_le (pc := 127) (tgt := 164) dX4_value_127 rfl hf (fun hf => ?_) (fun hf => ?_)
            · exact wk_lv [1, 2, 3, 4, 5, 6] rfl (J164  a4_6  s6 hf)
            · obtain ⟨y130, hy130, hf⟩ := xlet_some hf
              refine wk_iinc (pc := 130) (v := y130) (lv' := [(4, .int y130), (6, .int y22), (0, .ref (gA G k)), (1, .int p1), (2, .int p2), (3, .int p3), (5, .int a5_6)]) dX4_value_130 5 rfl (by rw [hy130] <;> rfl) (by decide) rfl ?_
              refine wk_aload_n (pc := 133) dX4_value_133 rfl 2 rfl ?_
              refine wk_getR (C := RX4) (T := TX4) (N := 3) (pc := 134) dX4_value_134 (sX4_0 hG hk).2 (sX4_0 hG hk).1 rfl qU_X4 2 (by decide) qF_X4_19 rfl ?_
              refine wk_iload (pc := 137) dX4_value_137 0 rfl ?_
              refine wk_iconst (pc := 139) (v := (1 : Int32)) dX4_value_139 (by decide) ?_
              refine wk_isub (pc := 140) dX4_value_140 ?_
              refine wk_iload (pc := 141) dX4_value_141 1 rfl ?_
              refine wk_ineg (pc := 143) dX4_value_143 ?_
              refine wk_aload_n (pc := 144) dX4_value_144 rfl 2 rfl ?_
              refine wk_getR (C := RX4) (T := TX4) (N := 3) (pc := 145) dX4_value_145 (sX4_0 hG hk).2 (sX4_0 hG hk).1 rfl qU_X4 2 (by decide) qF_X4_19 rfl ?_
              refine wk_iload (pc := 148) dX4_value_148 0 rfl ?_
              refine wk_iconst (pc := 150) (v := (1 : Int32)) dX4_value_150 (by decide) ?_
              refine wk_isub (pc := 151) dX4_value_151 ?_
              obtain ⟨h152, hf⟩ := xif_some hf
              refine wk_iald (pc := 152) (jj := (y130 - (1 : Int32)).toNatClampNeg) dX4_value_152 (sX4_2 hG hk).2 (sX4_2 hG hk).1 h152 rfl ?_
              refine wk_aload_n (pc := 153) dX4_value_153 rfl 2 rfl ?_
              refine wk_getR (C := RX4) (T := TX4) (N := 3) (pc := 154) dX4_value_154 (sX4_0 hG hk).2 (sX4_0 hG hk).1 rfl qU_X4 2 (by decide) qF_X4_19 rfl ?_
              refine wk_iload (pc := 157) dX4_value_157 0 rfl ?_
              obtain ⟨h159, hf⟩ := xif_some hf
              refine wk_iald (pc := 159) (jj := y130.toNatClampNeg) dX4_value_159 (sX4_2 hG hk).2 (sX4_2 hG hk).1 h159 rfl ?_
              obtain ⟨r160, s160, hc160, hf⟩ := xbind_some hf
              refine wk_callSI (pc := 160) (As := [.int (-y22), .int (s6 (k + 2) (y130 - (1 : Int32)).toNatClampNeg), .int (s6 (k + 2) y130.toNatClampNeg)]) (rest := [.int (y130 - (1 : Int32)), .ref (gA G (k + 2))]) (kX4_joined l hG  hc160) cw_X4_28 (by decide) dX4_value_160 rfl (Nat.le_of_ble_eq_true rfl) ?_
              obtain ⟨h163, hf⟩ := xif_some hf
              refine wk_iast (pc := 163) (jj := (y130 - (1 : Int32)).toNatClampNeg) dX4_value_163 (sX4_2 hG hk).2 (sX4_2 hG hk).1 h163 rfl ?_
              obtain ⟨s163, hs163, hf⟩ := xlet_some hf
              refine wk_sig hs163 ?_
              exact wk_lv [2, 3, 4, 5, 0, 6] rfl (J164  y130  s163 hf)
          · refine wk_iload (pc := 90) dX4_value_90 5 rfl ?_
            refine wk_if_le (pc := 92) (tgt := 164) dX4_value_92 rfl hf (fun hf => ?_) (fun hf => ?_)
            · exact wk_lv [1, 2, 3, 4, 5, 6] rfl (J164  a4_6  s6 hf)
            · refine wk_aload_n (pc := 95) dX4_value_95 rfl 1 rfl ?_
              refine wk_getR (C := RX4) (T := TX4) (N := 3) (pc := 96) dX4_value_96 (sX4_0 hG hk).2 (sX4_0 hG hk).1 rfl qU_X4 2 (by decide) qF_X4_19 rfl ?_
              refine wk_iload (pc := 99) dX4_value_99 5 rfl ?_
              refine wk_iconst (pc := 101) (v := (1 : Int32)) dX4_value_101 (by decide) ?_
              refine wk_isub (pc := 102) dX4_value_102 ?_
              refine wk_aload_n (pc := 103) dX4_value_103 rfl 1 rfl ?_
              refine wk_getR (C := RX4) (T := TX4) (N := 3) (pc := 104) dX4_value_104 (sX4_0 hG hk).2 (sX4_0 hG hk).1 rfl qU_X4 2 (by decide) qF_X4_19 rfl ?_
              refine wk_iload (pc := 107) dX4_value_107 5 rfl ?_
              refine wk_iconst (pc := 109) (v := (1 : Int32)) dX4_value_109 (by decide) ?_
              refine wk_isub (pc := 110) dX4_value_110 ?_
              obtain ⟨h111, hf⟩ := xif_some hf
              refine wk_iald (pc := 111) (jj := (a4_6 - (1 : Int32)).toNatClampNeg) dX4_value_111 (sX4_2 hG hk).2 (sX4_2 hG hk).1 h111 rfl ?_
              obtain ⟨y120d, hy120d, hf⟩ := xlet_some hf
              have K120 : wk l G 3 RX4 cX4_value 7 (some .int) (xI r s') 120 [(6, .int y22), (0, .ref (gA G k)), (1, .int p1), (2, .int p2), (3, .int p3), (4, .int a4_6), (5, .int a5_6)] [.int y120d, .int (a4_6 - (1 : Int32)), .ref (gA G (k + 2))] s6 := by
                exact wk_lv [1, 2, 3, 4, 5, 6] rfl (J120 y120d   s6 hf)
              by_cases c112 : (s6 (k + 2) (a4_6 - (1 : Int32)).toNatClampNeg) = 0
              · rw [if_pos c112] at hy120d
                refine wk_if_ne_p (pc := 112) (tgt := 119) dX4_value_112 rfl c112 ?_
                refine wk_iconst (pc := 115) (v := (1 : Int32)) dX4_value_115 (by decide) ?_
                refine wk_goto (pc := 116) (tgt := 120) dX4_value_116 rfl ?_
                exact wk_top hy120d K120
              · rw [if_neg c112] at hy120d
                refine wk_if_ne_m (pc := 112) (tgt := 119) dX4_value_112 rfl c112 ?_
                refine wk_iconst (pc := 119) (v := (0 : Int32)) dX4_value_119 (by decide) ?_
                exact wk_top hy120d K120
        · refine wk_iload (pc := 31) dX4_value_31 5 rfl ?_
          refine wk_bipush (pc := 33) (v := (50 : Int32)) dX4_value_33 (by decide) ?_
          refine wk_icmp_ge (pc := 35) (tgt := 164) dX4_value_35 rfl hf (fun hf => ?_) (fun hf => ?_)
          · exact wk_lv [1, 2, 3, 4, 5, 6] rfl (J164  a4_6  s6 hf)
          · refine wk_aload_n (pc := 38) dX4_value_38 rfl 1 rfl ?_
            refine wk_getR (C := RX4) (T := TX4) (N := 3) (pc := 39) dX4_value_39 (sX4_0 hG hk).2 (sX4_0 hG hk).1 rfl qU_X4 2 (by decide) qF_X4_19 rfl ?_
            refine wk_iload (pc := 42) dX4_value_42 5 rfl ?_
            refine wk_iload (pc := 44) dX4_value_44 0 rfl ?_
            obtain ⟨y76d, hy76d, hf⟩ := xlet_some hf
            have K76 : wk l G 3 RX4 cX4_value 7 (some .int) (xI r s') 76 [(6, .int y22), (0, .ref (gA G k)), (1, .int p1), (2, .int p2), (3, .int p3), (4, .int a4_6), (5, .int a5_6)] [.int y76d, .int a4_6, .ref (gA G (k + 2))] s6 := by
              exact wk_lv [1, 2, 3, 4, 5, 6] rfl (J76 y76d   s6 hf)
            by_cases c46 : y22 < 0
            · rw [if_pos c46] at hy76d
              refine wk_if_lt_p (pc := 46) (tgt := 54) dX4_value_46 rfl c46 ?_
              refine wk_iload (pc := 54) dX4_value_54 0 rfl ?_
              refine wk_iconst (pc := 56) (v := (-1 : Int32)) dX4_value_56 (by decide) ?_
              by_cases c57 : y22 = (-1 : Int32)
              · rw [if_pos c57] at hy76d
                refine wk_icmp_ne_p (pc := 57) (tgt := 64) dX4_value_57 rfl c57 ?_
                refine wk_iload_n (pc := 60) dX4_value_60 rfl 2 rfl ?_
                refine wk_goto (pc := 61) (tgt := 76) dX4_value_61 rfl ?_
                exact wk_top hy76d K76
              · rw [if_neg c57] at hy76d
                refine wk_icmp_ne_m (pc := 57) (tgt := 64) dX4_value_57 rfl c57 ?_
                refine wk_iload (pc := 64) dX4_value_64 0 rfl ?_
                refine wk_bipush (pc := 66) (v := (-3 : Int32)) dX4_value_66 (by decide) ?_
                by_cases c68 : y22 = (-3 : Int32)
                · rw [if_pos c68] at hy76d
                  refine wk_icmp_ne_p (pc := 68) (tgt := 75) dX4_value_68 rfl c68 ?_
                  refine wk_iload_n (pc := 71) dX4_value_71 rfl 4 rfl ?_
                  refine wk_goto (pc := 72) (tgt := 76) dX4_value_72 rfl ?_
                  exact wk_top hy76d K76
                · rw [if_neg c68] at hy76d
                  refine wk_icmp_ne_m (pc := 68) (tgt := 75) dX4_value_68 rfl c68 ?_
                  refine wk_iload_n (pc := 75) dX4_value_75 rfl 3 rfl ?_
                  exact wk_top hy76d K76
            · rw [if_neg c46] at hy76d
              refine wk_if_lt_m (pc := 46) (tgt := 54) dX4_value_46 rfl c46 ?_
              refine wk_iload (pc := 49) dX4_value_49 0 rfl ?_
              refine wk_goto (pc := 51) (tgt := 76) dX4_value_51 rfl ?_
              exact wk_top hy76d K76
  refine wk_iconst (pc := 0) (v := (0 : Int32)) dX4_value_0 (by decide) ?_
  refine wk_istore (pc := 1) (lv' := [(4, .int (0 : Int32)), (0, .ref (gA G k)), (1, .int p1), (2, .int p2), (3, .int p3)]) dX4_value_1 (by decide) rfl ?_
  refine wk_iconst (pc := 3) (v := (0 : Int32)) dX4_value_3 (by decide) ?_
  refine wk_istore (pc := 4) (lv' := [(5, .int (0 : Int32)), (4, .int (0 : Int32)), (0, .ref (gA G k)), (1, .int p1), (2, .int p2), (3, .int p3)]) dX4_value_4 (by decide) rfl ?_
  exact wk_lv [2, 3, 4, 5, 1, 0] rfl (J6  xF (0 : Int32) (0 : Int32)  s hf)
noncomputable def sX3_setOf_L29 (a4_5 : Int32) (self5 : Int32 × Int32 → xS → Option (Int32 × xS)) (a3_29 : Int32) (s29 : xS) : Option (Int32 × xS) := xlet (a4_5 + (1 : Int32)) (fun y29 => self5 (a3_29, y29) s29)
noncomputable def sX3_setOf_L5 (k : Nat) (p1 : Nat) (p2 : Int32) (self5 : Int32 × Int32 → xS → Option (Int32 × xS)) : Int32 × Int32 → xS → Option (Int32 × xS) := fun (a3_5, a4_5) s5 => (if (s5 k 0) ≤ a4_5 then some (a3_5, s5) else (if xin a4_5 7 then (if (s5 p1 a4_5.toNatClampNeg) = p2 then xlet ((a3_5 ||| ((1 : Int32) <<< (a4_5 &&& 31)))) (fun y28 => (sX3_setOf_L29 a4_5 self5) y28 s5) else (sX3_setOf_L29 a4_5 self5) a3_5 s5) else none))
noncomputable def sX3_setOf (k : Nat) (p1 : Nat) (p2 : Int32) (s : xS) : Option (Int32 × xS) := xloop (sX3_setOf_L5 k p1 p2) xF ((0 : Int32), (0 : Int32)) s
set_option maxHeartbeats 4000000 in
set_option maxRecDepth 100000 in
theorem kX3_setOf (l : Launch) {G : xG} (hG : xC1 G)  {k : Nat} {p1 : Nat} {p2 : Int32} (hk : k ∈ lFleet) (hp1 : gS G p1 = .inl 7 ∧ p1 < gN G) {s : xS} {r : Int32} {s' : xS} (hf : sX3_setOf k p1 p2 s = some (r, s')) : xMet l G 2 yX3_setOf cX3_setOf 5 (some .int) [.ref (gA G k), .ref (gA G p1), .int p2] s (xI r s') := by
  refine xMet.of (by decide) (Nat.le_of_ble_eq_true rfl) ?_
  show wk l G 2 RX3 cX3_setOf 5 (some .int) (xI r s') 0 [(0, .ref (gA G k)), (1, .ref (gA G p1)), (2, .int p2)] [] s
  unfold sX3_setOf at hf
  have J5 : ∀   (N : Nat) (a3_5 : Int32) (a4_5 : Int32)  (s5 : xS), xloop (sX3_setOf_L5 k p1 p2) N (a3_5, a4_5) s5 = some (r, s') → wk l G 2 RX3 cX3_setOf 5 (some .int) (xI r s') 5 [(0, .ref (gA G k)), (1, .ref (gA G p1)), (2, .int p2), (3, .int a3_5), (4, .int a4_5)] [] s5 := by
    intro N
    induction N with
    | zero => intro a3_5 a4_5 s5 hf; exact (xloop_0 hf).elim
    | succ N ih5 =>
      intro a3_5 a4_5 s5 hf
      rw [xloop_s] at hf
      generalize xloop (sX3_setOf_L5 k p1 p2) N = self5 at hf ih5
      unfold sX3_setOf_L5 at hf
      dsimp only at hf
      have J29 : ∀   (a3_29 : Int32)  (s29 : xS), (sX3_setOf_L29 a4_5 self5) a3_29 s29 = some (r, s') → wk l G 2 RX3 cX3_setOf 5 (some .int) (xI r s') 29 [(0, .ref (gA G k)), (1, .ref (gA G p1)), (2, .int p2), (3, .int a3_29), (4, .int a4_5)] [] s29 := by
        intro a3_29 s29 hf
        unfold sX3_setOf_L29 at hf
        obtain ⟨y29, hy29, hf⟩ := xlet_some hf
        refine wk_iinc (pc := 29) (v := y29) (lv' := [(4, .int y29), (0, .ref (gA G k)), (1, .ref (gA G p1)), (2, .int p2), (3, .int a3_29)]) dX3_setOf_29 4 rfl (by rw [hy29] <;> rfl) (by decide) rfl ?_
        refine wk_goto (pc := 32) (tgt := 5) dX3_setOf_32 rfl ?_
        exact wk_lv [1, 2, 3, 4, 0] rfl (ih5 a3_29 y29  s29 hf)
      refine wk_iload (pc := 5) dX3_setOf_5 4 rfl ?_
      refine wk_aload_n (pc := 7) dX3_setOf_7 rfl 0 rfl ?_
      refine wk_getI (C := RX3) (T := TX3) (N := 7) (pc := 8) dX3_setOf_8 (sX3_0 hG hk).2 (sX3_0 hG hk).1 rfl qU_X3 0 (by decide) qF_X3_9 rfl ?_
      refine wk_icmp_ge (pc := 11) (tgt := 35) dX3_setOf_11 rfl hf (fun hf => ?_) (fun hf => ?_)
      · refine wk_iload_n (pc := 35) dX3_setOf_35 rfl 3 rfl ?_
        exact wk_iret (pc := 36) dX3_setOf_36 rfl (xI_of hf)
      · refine wk_aload_n (pc := 14) dX3_setOf_14 rfl 1 rfl ?_
        refine wk_iload (pc := 15) dX3_setOf_15 4 rfl ?_
        obtain ⟨h17, hf⟩ := xif_some hf
        refine wk_iald (pc := 17) (jj := a4_5.toNatClampNeg) dX3_setOf_17 hp1.2 hp1.1 h17 rfl ?_
        refine wk_iload_n (pc := 18) dX3_setOf_18 rfl 2 rfl ?_
        refine wk_icmp_ne (pc := 19) (tgt := 29) dX3_setOf_19 rfl hf (fun hf => ?_) (fun hf => ?_)
        · exact wk_lv [0, 1, 2, 3, 4] rfl (J29  a3_5  s5 hf)
        · refine wk_iload_n (pc := 22) dX3_setOf_22 rfl 3 rfl ?_
          refine wk_iconst (pc := 23) (v := (1 : Int32)) dX3_setOf_23 (by decide) ?_
          refine wk_iload (pc := 24) dX3_setOf_24 4 rfl ?_
          refine wk_ishl (pc := 26) dX3_setOf_26 ?_
          refine wk_ior (pc := 27) dX3_setOf_27 ?_
          obtain ⟨y28, hy28, hf⟩ := xlet_some hf
          refine wk_top hy28 ?_
          refine wk_istore_n (pc := 28) (lv' := [(3, .int y28), (0, .ref (gA G k)), (1, .ref (gA G p1)), (2, .int p2), (4, .int a4_5)]) dX3_setOf_28 rfl (by decide) rfl ?_
          exact wk_lv [1, 2, 3, 0, 4] rfl (J29  y28  s5 hf)
  refine wk_iconst (pc := 0) (v := (0 : Int32)) dX3_setOf_0 (by decide) ?_
  refine wk_istore_n (pc := 1) (lv' := [(3, .int (0 : Int32)), (0, .ref (gA G k)), (1, .ref (gA G p1)), (2, .int p2)]) dX3_setOf_1 rfl (by decide) rfl ?_
  refine wk_iconst (pc := 2) (v := (0 : Int32)) dX3_setOf_2 (by decide) ?_
  refine wk_istore (pc := 3) (lv' := [(4, .int (0 : Int32)), (3, .int (0 : Int32)), (0, .ref (gA G k)), (1, .ref (gA G p1)), (2, .int p2)]) dX3_setOf_3 (by decide) rfl ?_
  exact wk_lv [2, 3, 4, 1, 0] rfl (J5  xF (0 : Int32) (0 : Int32)  s hf)
noncomputable def sX3_setAt (k : Nat) (p1 : Int32) (s : xS) : Option (Int32 × xS) := xbind (sX3_setOf k (k + 4) p1 s) (fun r6 s6 => some (r6, s6))
set_option maxHeartbeats 4000000 in
set_option maxRecDepth 100000 in
theorem kX3_setAt (l : Launch) {G : xG} (hG : xC1 G)  {k : Nat} {p1 : Int32} (hk : k ∈ lFleet) {s : xS} {r : Int32} {s' : xS} (hf : sX3_setAt k p1 s = some (r, s')) : xMet l G 3 yX3_setAt cX3_setAt 2 (some .int) [.ref (gA G k), .int p1] s (xI r s') := by
  refine xMet.of (by decide) (Nat.le_of_ble_eq_true rfl) ?_
  show wk l G 3 RX3 cX3_setAt 2 (some .int) (xI r s') 0 [(0, .ref (gA G k)), (1, .int p1)] [] s
  unfold sX3_setAt at hf
  refine wk_aload_n (pc := 0) dX3_setAt_0 rfl 0 rfl ?_
  refine wk_aload_n (pc := 1) dX3_setAt_1 rfl 0 rfl ?_
  refine wk_getR (C := RX3) (T := TX3) (N := 7) (pc := 2) dX3_setAt_2 (sX3_0 hG hk).2 (sX3_0 hG hk).1 rfl qU_X3 5 (by decide) qF_X3_28 rfl ?_
  refine wk_iload_n (pc := 5) dX3_setAt_5 rfl 1 rfl ?_
  obtain ⟨r6, s6, hc6, hf⟩ := xbind_some hf
  refine wk_callVI (pc := 6) (As := [.ref (gA G (k + 4)), .int p1]) (rest := []) (kX3_setOf l hG hk (sX3_4 hG hk) hc6) cw_X3_40 (by decide) dX3_setAt_6 (sX3_0 hG hk).2 (sX3_0 hG hk).1 rfl rfl rfl (Nat.le_of_ble_eq_true rfl) ?_
  exact wk_iret (pc := 9) dX3_setAt_9 rfl (xI_of hf)
noncomputable def sX4_add (k : Nat) (p1 : Int32) (s : xS) : Option (Unit × xS) := (if (50 : Int32) ≤ (s k 0) then some ((), s) else (if xin (s k 0) 50 then xlet (xup s (k + 1) (upd (s (k + 1)) (s k 0).toNatClampNeg p1)) (fun s18 => xlet (xup s18 k (upd (s18 k) 0 ((s18 k 0) + (1 : Int32)))) (fun s26 => some ((), s26))) else none))
set_option maxHeartbeats 4000000 in
set_option maxRecDepth 100000 in
theorem kX4_add (l : Launch) {G : xG} (hG : xC1 G)  {k : Nat} {p1 : Int32} (hk : k ∈ lLaw) {s : xS} {s' : xS} (hf : sX4_add k p1 s = some ((), s')) : xMet l G 2 yX4_add cX4_add 2 none [.ref (gA G k), .int p1] s (xU s') := by
  refine xMet.of (by decide) (Nat.le_of_ble_eq_true rfl) ?_
  show wk l G 2 RX4 cX4_add 2 none (xU s') 0 [(0, .ref (gA G k)), (1, .int p1)] [] s
  unfold sX4_add at hf
  refine wk_aload_n (pc := 0) dX4_add_0 rfl 0 rfl ?_
  refine wk_getI (C := RX4) (T := TX4) (N := 3) (pc := 1) dX4_add_1 (sX4_0 hG hk).2 (sX4_0 hG hk).1 rfl qU_X4 0 (by decide) qF_X4_9 rfl ?_
  refine wk_bipush (pc := 4) (v := (50 : Int32)) dX4_add_4 (by decide) ?_
  refine wk_icmp_ge (pc := 6) (tgt := 29) dX4_add_6 rfl hf (fun hf => ?_) (fun hf => ?_)
  · exact wk_vret (pc := 29) dX4_add_29 rfl (xU_of hf)
  · refine wk_aload_n (pc := 9) dX4_add_9 rfl 0 rfl ?_
    refine wk_getR (C := RX4) (T := TX4) (N := 3) (pc := 10) dX4_add_10 (sX4_0 hG hk).2 (sX4_0 hG hk).1 rfl qU_X4 1 (by decide) qF_X4_15 rfl ?_
    refine wk_aload_n (pc := 13) dX4_add_13 rfl 0 rfl ?_
    refine wk_getI (C := RX4) (T := TX4) (N := 3) (pc := 14) dX4_add_14 (sX4_0 hG hk).2 (sX4_0 hG hk).1 rfl qU_X4 0 (by decide) qF_X4_9 rfl ?_
    refine wk_iload_n (pc := 17) dX4_add_17 rfl 1 rfl ?_
    obtain ⟨h18, hf⟩ := xif_some hf
    refine wk_iast (pc := 18) (jj := (s k 0).toNatClampNeg) dX4_add_18 (sX4_1 hG hk).2 (sX4_1 hG hk).1 h18 rfl ?_
    obtain ⟨s18, hs18, hf⟩ := xlet_some hf
    refine wk_sig hs18 ?_
    refine wk_aload_n (pc := 19) dX4_add_19 rfl 0 rfl ?_
    refine wk_dup (pc := 20) dX4_add_20 rfl ?_
    refine wk_getI (C := RX4) (T := TX4) (N := 3) (pc := 21) dX4_add_21 (sX4_0 hG hk).2 (sX4_0 hG hk).1 rfl qU_X4 0 (by decide) qF_X4_9 rfl ?_
    refine wk_iconst (pc := 24) (v := (1 : Int32)) dX4_add_24 (by decide) ?_
    refine wk_iadd (pc := 25) dX4_add_25 ?_
    refine wk_putI (C := RX4) (T := TX4) (N := 3) (ty := .int) (pc := 26) dX4_add_26 (sX4_0 hG hk).2 (sX4_0 hG hk).1 rfl qU_X4 tyX4 tyX4_ok nmX4 0 (by decide) qF_X4_9 rfl rfl rfl rfl rfl ?_
    obtain ⟨s26, hs26, hf⟩ := xlet_some hf
    refine wk_sig hs26 ?_
    exact wk_vret (pc := 29) dX4_add_29 rfl (xU_of hf)
noncomputable def sX4_copyFrom (k : Nat) (p1 : Nat) (s : xS) : Option (Unit × xS) := xlet (xup s k (upd (s k) 0 (s p1 0))) (fun s5 => xlet (xup s5 (k + 1) (va_cpy (s5 (p1 + 1)) (s5 (k + 1)) (0 : Int32).toNatClampNeg (0 : Int32).toNatClampNeg (50 : Int32).toNatClampNeg)) (fun s20 => some ((), s20)))
set_option maxHeartbeats 4000000 in
set_option maxRecDepth 100000 in
theorem kX4_copyFrom (l : Launch) {G : xG} (hG : xC1 G)  {k : Nat} {p1 : Nat} (hk : k ∈ lLaw) (hp1 : p1 ∈ lLaw) {s : xS} {s' : xS} (hf : sX4_copyFrom k p1 s = some ((), s')) : xMet l G 2 yX4_copyFrom cX4_copyFrom 2 none [.ref (gA G k), .ref (gA G p1)] s (xU s') := by
  refine xMet.of (by decide) (Nat.le_of_ble_eq_true rfl) ?_
  show wk l G 2 RX4 cX4_copyFrom 2 none (xU s') 0 [(0, .ref (gA G k)), (1, .ref (gA G p1))] [] s
  unfold sX4_copyFrom at hf
  refine wk_aload_n (pc := 0) dX4_copyFrom_0 rfl 0 rfl ?_
  refine wk_aload_n (pc := 1) dX4_copyFrom_1 rfl 1 rfl ?_
  refine wk_getI (C := RX4) (T := TX4) (N := 3) (pc := 2) dX4_copyFrom_2 (sX4_0 hG hp1).2 (sX4_0 hG hp1).1 rfl qU_X4 0 (by decide) qF_X4_9 rfl ?_
  refine wk_putI (C := RX4) (T := TX4) (N := 3) (ty := .int) (pc := 5) dX4_copyFrom_5 (sX4_0 hG hk).2 (sX4_0 hG hk).1 rfl qU_X4 tyX4 tyX4_ok nmX4 0 (by decide) qF_X4_9 rfl rfl rfl rfl rfl ?_
  obtain ⟨s5, hs5, hf⟩ := xlet_some hf
  refine wk_sig hs5 ?_
  refine wk_aload_n (pc := 8) dX4_copyFrom_8 rfl 1 rfl ?_
  refine wk_getR (C := RX4) (T := TX4) (N := 3) (pc := 9) dX4_copyFrom_9 (sX4_0 hG hp1).2 (sX4_0 hG hp1).1 rfl qU_X4 1 (by decide) qF_X4_15 rfl ?_
  refine wk_iconst (pc := 12) (v := (0 : Int32)) dX4_copyFrom_12 (by decide) ?_
  refine wk_aload_n (pc := 13) dX4_copyFrom_13 rfl 0 rfl ?_
  refine wk_getR (C := RX4) (T := TX4) (N := 3) (pc := 14) dX4_copyFrom_14 (sX4_0 hG hk).2 (sX4_0 hG hk).1 rfl qU_X4 1 (by decide) qF_X4_15 rfl ?_
  refine wk_iconst (pc := 17) (v := (0 : Int32)) dX4_copyFrom_17 (by decide) ?_
  refine wk_bipush (pc := 18) (v := (50 : Int32)) dX4_copyFrom_18 (by decide) ?_
  refine wk_copyi (pc := 20) (z0 := 50) (z1 := 50) dX4_copyFrom_20 qM_X4_22 qN_copy qS_copy qJ_J10 (sX4_1 hG hp1).2 (sX4_1 hG hp1).1 (sX4_1 hG hk).2 (sX4_1 hG hk).1 (by decide) (Nat.le_of_ble_eq_true rfl) (by decide) ?_
  obtain ⟨s20, hs20, hf⟩ := xlet_some hf
  refine wk_sig hs20 ?_
  exact wk_vret (pc := 23) dX4_copyFrom_23 rfl (xU_of hf)
noncomputable def sJ6_bitCount_0f7a4 (p0 : Int32) (s : xS) : Option (Int32 × xS) := xlet ((p0 - (((p0.toUInt32 >>> ((1 : Int32).toUInt32 &&& Int32.toUInt32 31)).toInt32) &&& (1431655765 : Int32)))) (fun y9 => xlet (((y9 &&& (858993459 : Int32)) + (((y9.toUInt32 >>> ((2 : Int32).toUInt32 &&& Int32.toUInt32 31)).toInt32) &&& (858993459 : Int32)))) (fun y23 => xlet (((y23 + ((y23.toUInt32 >>> ((4 : Int32).toUInt32 &&& Int32.toUInt32 31)).toInt32)) &&& (252645135 : Int32))) (fun y33 => xlet ((y33 + ((y33.toUInt32 >>> ((8 : Int32).toUInt32 &&& Int32.toUInt32 31)).toInt32))) (fun y40 => xlet ((y40 + ((y40.toUInt32 >>> ((16 : Int32).toUInt32 &&& Int32.toUInt32 31)).toInt32))) (fun y47 => some ((y47 &&& (63 : Int32)), s))))))
set_option maxHeartbeats 4000000 in
set_option maxRecDepth 100000 in
theorem kJ6_bitCount_0f7a4 (l : Launch) {G : xG} (hG : xA1 G)  {p0 : Int32}  {s : xS} {r : Int32} {s' : xS} (hf : sJ6_bitCount_0f7a4 p0 s = some (r, s')) : xMet l G 2 yJ6_bitCount_0f7a4 cJ6_bitCount_0f7a4 1 (some .int) [.int p0] s (xI r s') := by
  refine xMet.of (by decide) (Nat.le_of_ble_eq_true rfl) ?_
  show wk l G 2 RJ6 cJ6_bitCount_0f7a4 1 (some .int) (xI r s') 0 [(0, .int p0)] [] s
  unfold sJ6_bitCount_0f7a4 at hf
  refine wk_iload_n (pc := 0) dJ6_bitCount_0f7a4_0 rfl 0 rfl ?_
  refine wk_iload_n (pc := 1) dJ6_bitCount_0f7a4_1 rfl 0 rfl ?_
  refine wk_iconst (pc := 2) (v := (1 : Int32)) dJ6_bitCount_0f7a4_2 (by decide) ?_
  refine wk_iushr (pc := 3) dJ6_bitCount_0f7a4_3 ?_
  refine wk_ldcw (pc := 4) (v := (1431655765 : Int32)) dJ6_bitCount_0f7a4_4 qK_J6_265 ?_
  refine wk_iand (pc := 7) dJ6_bitCount_0f7a4_7 ?_
  refine wk_isub (pc := 8) dJ6_bitCount_0f7a4_8 ?_
  obtain ⟨y9, hy9, hf⟩ := xlet_some hf
  refine wk_top hy9 ?_
  refine wk_istore_n (pc := 9) (lv' := [(0, .int y9)]) dJ6_bitCount_0f7a4_9 rfl (by decide) rfl ?_
  refine wk_iload_n (pc := 10) dJ6_bitCount_0f7a4_10 rfl 0 rfl ?_
  refine wk_ldcw (pc := 11) (v := (858993459 : Int32)) dJ6_bitCount_0f7a4_11 qK_J6_266 ?_
  refine wk_iand (pc := 14) dJ6_bitCount_0f7a4_14 ?_
  refine wk_iload_n (pc := 15) dJ6_bitCount_0f7a4_15 rfl 0 rfl ?_
  refine wk_iconst (pc := 16) (v := (2 : Int32)) dJ6_bitCount_0f7a4_16 (by decide) ?_
  refine wk_iushr (pc := 17) dJ6_bitCount_0f7a4_17 ?_
  refine wk_ldcw (pc := 18) (v := (858993459 : Int32)) dJ6_bitCount_0f7a4_18 qK_J6_266 ?_
  refine wk_iand (pc := 21) dJ6_bitCount_0f7a4_21 ?_
  refine wk_iadd (pc := 22) dJ6_bitCount_0f7a4_22 ?_
  obtain ⟨y23, hy23, hf⟩ := xlet_some hf
  refine wk_top hy23 ?_
  refine wk_istore_n (pc := 23) (lv' := [(0, .int y23)]) dJ6_bitCount_0f7a4_23 rfl (by decide) rfl ?_
  refine wk_iload_n (pc := 24) dJ6_bitCount_0f7a4_24 rfl 0 rfl ?_
  refine wk_iload_n (pc := 25) dJ6_bitCount_0f7a4_25 rfl 0 rfl ?_
  refine wk_iconst (pc := 26) (v := (4 : Int32)) dJ6_bitCount_0f7a4_26 (by decide) ?_
  refine wk_iushr (pc := 27) dJ6_bitCount_0f7a4_27 ?_
  refine wk_iadd (pc := 28) dJ6_bitCount_0f7a4_28 ?_
  refine wk_ldcw (pc := 29) (v := (252645135 : Int32)) dJ6_bitCount_0f7a4_29 qK_J6_267 ?_
  refine wk_iand (pc := 32) dJ6_bitCount_0f7a4_32 ?_
  obtain ⟨y33, hy33, hf⟩ := xlet_some hf
  refine wk_top hy33 ?_
  refine wk_istore_n (pc := 33) (lv' := [(0, .int y33)]) dJ6_bitCount_0f7a4_33 rfl (by decide) rfl ?_
  refine wk_iload_n (pc := 34) dJ6_bitCount_0f7a4_34 rfl 0 rfl ?_
  refine wk_iload_n (pc := 35) dJ6_bitCount_0f7a4_35 rfl 0 rfl ?_
  refine wk_bipush (pc := 36) (v := (8 : Int32)) dJ6_bitCount_0f7a4_36 (by decide) ?_
  refine wk_iushr (pc := 38) dJ6_bitCount_0f7a4_38 ?_
  refine wk_iadd (pc := 39) dJ6_bitCount_0f7a4_39 ?_
  obtain ⟨y40, hy40, hf⟩ := xlet_some hf
  refine wk_top hy40 ?_
  refine wk_istore_n (pc := 40) (lv' := [(0, .int y40)]) dJ6_bitCount_0f7a4_40 rfl (by decide) rfl ?_
  refine wk_iload_n (pc := 41) dJ6_bitCount_0f7a4_41 rfl 0 rfl ?_
  refine wk_iload_n (pc := 42) dJ6_bitCount_0f7a4_42 rfl 0 rfl ?_
  refine wk_bipush (pc := 43) (v := (16 : Int32)) dJ6_bitCount_0f7a4_43 (by decide) ?_
  refine wk_iushr (pc := 45) dJ6_bitCount_0f7a4_45 ?_
  refine wk_iadd (pc := 46) dJ6_bitCount_0f7a4_46 ?_
  obtain ⟨y47, hy47, hf⟩ := xlet_some hf
  refine wk_top hy47 ?_
  refine wk_istore_n (pc := 47) (lv' := [(0, .int y47)]) dJ6_bitCount_0f7a4_47 rfl (by decide) rfl ?_
  refine wk_iload_n (pc := 48) dJ6_bitCount_0f7a4_48 rfl 0 rfl ?_
  refine wk_bipush (pc := 49) (v := (63 : Int32)) dJ6_bitCount_0f7a4_49 (by decide) ?_
  refine wk_iand (pc := 51) dJ6_bitCount_0f7a4_51 ?_
  exact wk_iret (pc := 52) dJ6_bitCount_0f7a4_52 rfl (xI_of hf)
noncomputable def sX3_countAt (k : Nat) (p1 : Int32) (s : xS) : Option (Int32 × xS) := xbind (sX3_setAt k p1 s) (fun r2 s2 => xbind (sJ6_bitCount_0f7a4 r2 s2) (fun r5 s5 => some (r5, s5)))
set_option maxHeartbeats 4000000 in
set_option maxRecDepth 100000 in
theorem kX3_countAt (l : Launch) {G : xG} (hG : xC1 G)  {k : Nat} {p1 : Int32} (hk : k ∈ lFleet) {s : xS} {r : Int32} {s' : xS} (hf : sX3_countAt k p1 s = some (r, s')) : xMet l G 4 yX3_countAt cX3_countAt 2 (some .int) [.ref (gA G k), .int p1] s (xI r s') := by
  refine xMet.of (by decide) (Nat.le_of_ble_eq_true rfl) ?_
  show wk l G 4 RX3 cX3_countAt 2 (some .int) (xI r s') 0 [(0, .ref (gA G k)), (1, .int p1)] [] s
  unfold sX3_countAt at hf
  refine wk_aload_n (pc := 0) dX3_countAt_0 rfl 0 rfl ?_
  refine wk_iload_n (pc := 1) dX3_countAt_1 rfl 1 rfl ?_
  obtain ⟨r2, s2, hc2, hf⟩ := xbind_some hf
  refine wk_callVI (pc := 2) (As := [.int p1]) (rest := []) (kX3_setAt l hG hk hc2) cw_X3_44 (by decide) dX3_countAt_2 (sX3_0 hG hk).2 (sX3_0 hG hk).1 rfl rfl rfl (Nat.le_of_ble_eq_true rfl) ?_
  obtain ⟨r5, s5, hc5, hf⟩ := xbind_some hf
  refine wk_callSI (pc := 5) (As := [.int r2]) (rest := []) (kJ6_bitCount_0f7a4 l trivial  hc5) cw_X3_48 (by decide) dX3_countAt_5 rfl (Nat.le_of_ble_eq_true rfl) ?_
  exact wk_iret (pc := 8) dX3_countAt_8 rfl (xI_of hf)
noncomputable def sX2_nextDraw (k : Nat) (s : xS) : Option (Int32 × xS) := xlet (xup s k (upd (s k) 0 (((s k 0) * (1103515245 : Int32)) + (12345 : Int32)))) (fun s12 => some ((((s12 k 0).toUInt32 >>> ((8 : Int32).toUInt32 &&& Int32.toUInt32 31)).toInt32), s12))
set_option maxHeartbeats 4000000 in
set_option maxRecDepth 100000 in
theorem kX2_nextDraw (l : Launch) {G : xG} (hG : xC1 G)  {k : Nat} (hk : k ∈ lDesk) {s : xS} {r : Int32} {s' : xS} (hf : sX2_nextDraw k s = some (r, s')) : xMet l G 2 yX2_nextDraw cX2_nextDraw 1 (some .int) [.ref (gA G k)] s (xI r s') := by
  refine xMet.of (by decide) (Nat.le_of_ble_eq_true rfl) ?_
  show wk l G 2 RX2 cX2_nextDraw 1 (some .int) (xI r s') 0 [(0, .ref (gA G k))] [] s
  unfold sX2_nextDraw at hf
  refine wk_aload_n (pc := 0) dX2_nextDraw_0 rfl 0 rfl ?_
  refine wk_aload_n (pc := 1) dX2_nextDraw_1 rfl 0 rfl ?_
  refine wk_getI (C := RX2) (T := TX2) (N := 5) (pc := 2) dX2_nextDraw_2 (sX2_0 hG hk).2 (sX2_0 hG hk).1 rfl qU_X2 0 (by decide) qF_X2_9 rfl ?_
  refine wk_ldc (pc := 5) (v := (1103515245 : Int32)) dX2_nextDraw_5 qK_X2_34 ?_
  refine wk_imul (pc := 7) dX2_nextDraw_7 ?_
  refine wk_sipush (pc := 8) (v := (12345 : Int32)) dX2_nextDraw_8 (by decide) ?_
  refine wk_iadd (pc := 11) dX2_nextDraw_11 ?_
  refine wk_putI (C := RX2) (T := TX2) (N := 5) (ty := .int) (pc := 12) dX2_nextDraw_12 (sX2_0 hG hk).2 (sX2_0 hG hk).1 rfl qU_X2 tyX2 tyX2_ok nmX2 0 (by decide) qF_X2_9 rfl rfl rfl rfl rfl ?_
  obtain ⟨s12, hs12, hf⟩ := xlet_some hf
  refine wk_sig hs12 ?_
  refine wk_aload_n (pc := 15) dX2_nextDraw_15 rfl 0 rfl ?_
  refine wk_getI (C := RX2) (T := TX2) (N := 5) (pc := 16) dX2_nextDraw_16 (sX2_0 hG hk).2 (sX2_0 hG hk).1 rfl qU_X2 0 (by decide) qF_X2_9 rfl ?_
  refine wk_bipush (pc := 19) (v := (8 : Int32)) dX2_nextDraw_19 (by decide) ?_
  refine wk_iushr (pc := 21) dX2_nextDraw_21 ?_
  exact wk_iret (pc := 22) dX2_nextDraw_22 rfl (xI_of hf)
noncomputable def sX3_copyFrom (k : Nat) (p1 : Nat) (s : xS) : Option (Unit × xS) := xlet (xup s k (upd (s k) 0 (s p1 0))) (fun s5 => xlet (xup s5 k (upd (s5 k) 1 (s5 p1 1))) (fun s13 => xlet (xup s13 (k + 1) (va_cpy (s13 (p1 + 1)) (s13 (k + 1)) (0 : Int32).toNatClampNeg (0 : Int32).toNatClampNeg (7 : Int32).toNatClampNeg)) (fun s28 => xlet (xup s28 (k + 2) (va_cpy (s28 (p1 + 2)) (s28 (k + 2)) (0 : Int32).toNatClampNeg (0 : Int32).toNatClampNeg (7 : Int32).toNatClampNeg)) (fun s43 => xlet (xup s43 (k + 3) (va_cpy (s43 (p1 + 3)) (s43 (k + 3)) (0 : Int32).toNatClampNeg (0 : Int32).toNatClampNeg (7 : Int32).toNatClampNeg)) (fun s58 => xlet (xup s58 (k + 4) (va_cpy (s58 (p1 + 4)) (s58 (k + 4)) (0 : Int32).toNatClampNeg (0 : Int32).toNatClampNeg (7 : Int32).toNatClampNeg)) (fun s73 => xlet (xup s73 (k + 5) (va_cpy (s73 (p1 + 5)) (s73 (k + 5)) (0 : Int32).toNatClampNeg (0 : Int32).toNatClampNeg (7 : Int32).toNatClampNeg)) (fun s88 => some ((), s88))))))))
set_option maxHeartbeats 4000000 in
set_option maxRecDepth 100000 in
theorem kX3_copyFrom (l : Launch) {G : xG} (hG : xC1 G)  {k : Nat} {p1 : Nat} (hk : k ∈ lFleet) (hp1 : p1 ∈ lFleet) {s : xS} {s' : xS} (hf : sX3_copyFrom k p1 s = some ((), s')) : xMet l G 2 yX3_copyFrom cX3_copyFrom 2 none [.ref (gA G k), .ref (gA G p1)] s (xU s') := by
  refine xMet.of (by decide) (Nat.le_of_ble_eq_true rfl) ?_
  show wk l G 2 RX3 cX3_copyFrom 2 none (xU s') 0 [(0, .ref (gA G k)), (1, .ref (gA G p1))] [] s
  unfold sX3_copyFrom at hf
  refine wk_aload_n (pc := 0) dX3_copyFrom_0 rfl 0 rfl ?_
  refine wk_aload_n (pc := 1) dX3_copyFrom_1 rfl 1 rfl ?_
  refine wk_getI (C := RX3) (T := TX3) (N := 7) (pc := 2) dX3_copyFrom_2 (sX3_0 hG hp1).2 (sX3_0 hG hp1).1 rfl qU_X3 0 (by decide) qF_X3_9 rfl ?_
  refine wk_putI (C := RX3) (T := TX3) (N := 7) (ty := .int) (pc := 5) dX3_copyFrom_5 (sX3_0 hG hk).2 (sX3_0 hG hk).1 rfl qU_X3 tyX3 tyX3_ok nmX3 0 (by decide) qF_X3_9 rfl rfl rfl rfl rfl ?_
  obtain ⟨s5, hs5, hf⟩ := xlet_some hf
  refine wk_sig hs5 ?_
  refine wk_aload_n (pc := 8) dX3_copyFrom_8 rfl 0 rfl ?_
  refine wk_aload_n (pc := 9) dX3_copyFrom_9 rfl 1 rfl ?_
  refine wk_getI (C := RX3) (T := TX3) (N := 7) (pc := 10) dX3_copyFrom_10 (sX3_0 hG hp1).2 (sX3_0 hG hp1).1 rfl qU_X3 1 (by decide) qF_X3_15 rfl ?_
  refine wk_putI (C := RX3) (T := TX3) (N := 7) (ty := .int) (pc := 13) dX3_copyFrom_13 (sX3_0 hG hk).2 (sX3_0 hG hk).1 rfl qU_X3 tyX3 tyX3_ok nmX3 1 (by decide) qF_X3_15 rfl rfl rfl rfl rfl ?_
  obtain ⟨s13, hs13, hf⟩ := xlet_some hf
  refine wk_sig hs13 ?_
  refine wk_aload_n (pc := 16) dX3_copyFrom_16 rfl 1 rfl ?_
  refine wk_getR (C := RX3) (T := TX3) (N := 7) (pc := 17) dX3_copyFrom_17 (sX3_0 hG hp1).2 (sX3_0 hG hp1).1 rfl qU_X3 2 (by decide) qF_X3_18 rfl ?_
  refine wk_iconst (pc := 20) (v := (0 : Int32)) dX3_copyFrom_20 (by decide) ?_
  refine wk_aload_n (pc := 21) dX3_copyFrom_21 rfl 0 rfl ?_
  refine wk_getR (C := RX3) (T := TX3) (N := 7) (pc := 22) dX3_copyFrom_22 (sX3_0 hG hk).2 (sX3_0 hG hk).1 rfl qU_X3 2 (by decide) qF_X3_18 rfl ?_
  refine wk_iconst (pc := 25) (v := (0 : Int32)) dX3_copyFrom_25 (by decide) ?_
  refine wk_bipush (pc := 26) (v := (7 : Int32)) dX3_copyFrom_26 (by decide) ?_
  refine wk_copyi (pc := 28) (z0 := 7) (z1 := 7) dX3_copyFrom_28 qM_X3_34 qN_copy qS_copy qJ_J10 (sX3_1 hG hp1).2 (sX3_1 hG hp1).1 (sX3_1 hG hk).2 (sX3_1 hG hk).1 (by decide) (Nat.le_of_ble_eq_true rfl) (by decide) ?_
  obtain ⟨s28, hs28, hf⟩ := xlet_some hf
  refine wk_sig hs28 ?_
  refine wk_aload_n (pc := 31) dX3_copyFrom_31 rfl 1 rfl ?_
  refine wk_getR (C := RX3) (T := TX3) (N := 7) (pc := 32) dX3_copyFrom_32 (sX3_0 hG hp1).2 (sX3_0 hG hp1).1 rfl qU_X3 3 (by decide) qF_X3_22 rfl ?_
  refine wk_iconst (pc := 35) (v := (0 : Int32)) dX3_copyFrom_35 (by decide) ?_
  refine wk_aload_n (pc := 36) dX3_copyFrom_36 rfl 0 rfl ?_
  refine wk_getR (C := RX3) (T := TX3) (N := 7) (pc := 37) dX3_copyFrom_37 (sX3_0 hG hk).2 (sX3_0 hG hk).1 rfl qU_X3 3 (by decide) qF_X3_22 rfl ?_
  refine wk_iconst (pc := 40) (v := (0 : Int32)) dX3_copyFrom_40 (by decide) ?_
  refine wk_bipush (pc := 41) (v := (7 : Int32)) dX3_copyFrom_41 (by decide) ?_
  refine wk_copyi (pc := 43) (z0 := 7) (z1 := 7) dX3_copyFrom_43 qM_X3_34 qN_copy qS_copy qJ_J10 (sX3_2 hG hp1).2 (sX3_2 hG hp1).1 (sX3_2 hG hk).2 (sX3_2 hG hk).1 (by decide) (Nat.le_of_ble_eq_true rfl) (by decide) ?_
  obtain ⟨s43, hs43, hf⟩ := xlet_some hf
  refine wk_sig hs43 ?_
  refine wk_aload_n (pc := 46) dX3_copyFrom_46 rfl 1 rfl ?_
  refine wk_getR (C := RX3) (T := TX3) (N := 7) (pc := 47) dX3_copyFrom_47 (sX3_0 hG hp1).2 (sX3_0 hG hp1).1 rfl qU_X3 4 (by decide) qF_X3_25 rfl ?_
  refine wk_iconst (pc := 50) (v := (0 : Int32)) dX3_copyFrom_50 (by decide) ?_
  refine wk_aload_n (pc := 51) dX3_copyFrom_51 rfl 0 rfl ?_
  refine wk_getR (C := RX3) (T := TX3) (N := 7) (pc := 52) dX3_copyFrom_52 (sX3_0 hG hk).2 (sX3_0 hG hk).1 rfl qU_X3 4 (by decide) qF_X3_25 rfl ?_
  refine wk_iconst (pc := 55) (v := (0 : Int32)) dX3_copyFrom_55 (by decide) ?_
  refine wk_bipush (pc := 56) (v := (7 : Int32)) dX3_copyFrom_56 (by decide) ?_
  refine wk_copyi (pc := 58) (z0 := 7) (z1 := 7) dX3_copyFrom_58 qM_X3_34 qN_copy qS_copy qJ_J10 (sX3_3 hG hp1).2 (sX3_3 hG hp1).1 (sX3_3 hG hk).2 (sX3_3 hG hk).1 (by decide) (Nat.le_of_ble_eq_true rfl) (by decide) ?_
  obtain ⟨s58, hs58, hf⟩ := xlet_some hf
  refine wk_sig hs58 ?_
  refine wk_aload_n (pc := 61) dX3_copyFrom_61 rfl 1 rfl ?_
  refine wk_getR (C := RX3) (T := TX3) (N := 7) (pc := 62) dX3_copyFrom_62 (sX3_0 hG hp1).2 (sX3_0 hG hp1).1 rfl qU_X3 5 (by decide) qF_X3_28 rfl ?_
  refine wk_iconst (pc := 65) (v := (0 : Int32)) dX3_copyFrom_65 (by decide) ?_
  refine wk_aload_n (pc := 66) dX3_copyFrom_66 rfl 0 rfl ?_
  refine wk_getR (C := RX3) (T := TX3) (N := 7) (pc := 67) dX3_copyFrom_67 (sX3_0 hG hk).2 (sX3_0 hG hk).1 rfl qU_X3 5 (by decide) qF_X3_28 rfl ?_
  refine wk_iconst (pc := 70) (v := (0 : Int32)) dX3_copyFrom_70 (by decide) ?_
  refine wk_bipush (pc := 71) (v := (7 : Int32)) dX3_copyFrom_71 (by decide) ?_
  refine wk_copyi (pc := 73) (z0 := 7) (z1 := 7) dX3_copyFrom_73 qM_X3_34 qN_copy qS_copy qJ_J10 (sX3_4 hG hp1).2 (sX3_4 hG hp1).1 (sX3_4 hG hk).2 (sX3_4 hG hk).1 (by decide) (Nat.le_of_ble_eq_true rfl) (by decide) ?_
  obtain ⟨s73, hs73, hf⟩ := xlet_some hf
  refine wk_sig hs73 ?_
  refine wk_aload_n (pc := 76) dX3_copyFrom_76 rfl 1 rfl ?_
  refine wk_getR (C := RX3) (T := TX3) (N := 7) (pc := 77) dX3_copyFrom_77 (sX3_0 hG hp1).2 (sX3_0 hG hp1).1 rfl qU_X3 6 (by decide) qF_X3_31 rfl ?_
  refine wk_iconst (pc := 80) (v := (0 : Int32)) dX3_copyFrom_80 (by decide) ?_
  refine wk_aload_n (pc := 81) dX3_copyFrom_81 rfl 0 rfl ?_
  refine wk_getR (C := RX3) (T := TX3) (N := 7) (pc := 82) dX3_copyFrom_82 (sX3_0 hG hk).2 (sX3_0 hG hk).1 rfl qU_X3 6 (by decide) qF_X3_31 rfl ?_
  refine wk_iconst (pc := 85) (v := (0 : Int32)) dX3_copyFrom_85 (by decide) ?_
  refine wk_bipush (pc := 86) (v := (7 : Int32)) dX3_copyFrom_86 (by decide) ?_
  refine wk_copyi (pc := 88) (z0 := 7) (z1 := 7) dX3_copyFrom_88 qM_X3_34 qN_copy qS_copy qJ_J10 (sX3_5 hG hp1).2 (sX3_5 hG hp1).1 (sX3_5 hG hk).2 (sX3_5 hG hk).1 (by decide) (Nat.le_of_ble_eq_true rfl) (by decide) ?_
  obtain ⟨s88, hs88, hf⟩ := xlet_some hf
  refine wk_sig hs88 ?_
  exact wk_vret (pc := 91) dX3_copyFrom_91 rfl (xU_of hf)
noncomputable def sX3_setLost (k : Nat) (s : xS) : Option (Int32 × xS) := xbind (sX3_setOf k (k + 5) (1 : Int32) s) (fun r6 s6 => some (r6, s6))
set_option maxHeartbeats 4000000 in
set_option maxRecDepth 100000 in
theorem kX3_setLost (l : Launch) {G : xG} (hG : xC1 G)  {k : Nat} (hk : k ∈ lFleet) {s : xS} {r : Int32} {s' : xS} (hf : sX3_setLost k s = some (r, s')) : xMet l G 3 yX3_setLost cX3_setLost 1 (some .int) [.ref (gA G k)] s (xI r s') := by
  refine xMet.of (by decide) (Nat.le_of_ble_eq_true rfl) ?_
  show wk l G 3 RX3 cX3_setLost 1 (some .int) (xI r s') 0 [(0, .ref (gA G k))] [] s
  unfold sX3_setLost at hf
  refine wk_aload_n (pc := 0) dX3_setLost_0 rfl 0 rfl ?_
  refine wk_aload_n (pc := 1) dX3_setLost_1 rfl 0 rfl ?_
  refine wk_getR (C := RX3) (T := TX3) (N := 7) (pc := 2) dX3_setLost_2 (sX3_0 hG hk).2 (sX3_0 hG hk).1 rfl qU_X3 6 (by decide) qF_X3_31 rfl ?_
  refine wk_iconst (pc := 5) (v := (1 : Int32)) dX3_setLost_5 (by decide) ?_
  obtain ⟨r6, s6, hc6, hf⟩ := xbind_some hf
  refine wk_callVI (pc := 6) (As := [.ref (gA G (k + 5)), .int (1 : Int32)]) (rest := []) (kX3_setOf l hG hk (sX3_5 hG hk) hc6) cw_X3_40 (by decide) dX3_setLost_6 (sX3_0 hG hk).2 (sX3_0 hG hk).1 rfl rfl rfl (Nat.le_of_ble_eq_true rfl) ?_
  exact wk_iret (pc := 9) dX3_setLost_9 rfl (xI_of hf)
noncomputable def sX3_countLost (k : Nat) (s : xS) : Option (Int32 × xS) := xbind (sX3_setLost k s) (fun r1 s1 => xbind (sJ6_bitCount_0f7a4 r1 s1) (fun r4 s4 => some (r4, s4)))
set_option maxHeartbeats 4000000 in
set_option maxRecDepth 100000 in
theorem kX3_countLost (l : Launch) {G : xG} (hG : xC1 G)  {k : Nat} (hk : k ∈ lFleet) {s : xS} {r : Int32} {s' : xS} (hf : sX3_countLost k s = some (r, s')) : xMet l G 4 yX3_countLost cX3_countLost 1 (some .int) [.ref (gA G k)] s (xI r s') := by
  refine xMet.of (by decide) (Nat.le_of_ble_eq_true rfl) ?_
  show wk l G 4 RX3 cX3_countLost 1 (some .int) (xI r s') 0 [(0, .ref (gA G k))] [] s
  unfold sX3_countLost at hf
  refine wk_aload_n (pc := 0) dX3_countLost_0 rfl 0 rfl ?_
  obtain ⟨r1, s1, hc1, hf⟩ := xbind_some hf
  refine wk_callVI (pc := 1) (As := []) (rest := []) (kX3_setLost l hG hk hc1) cw_X3_53 (by decide) dX3_countLost_1 (sX3_0 hG hk).2 (sX3_0 hG hk).1 rfl rfl rfl (Nat.le_of_ble_eq_true rfl) ?_
  obtain ⟨r4, s4, hc4, hf⟩ := xbind_some hf
  refine wk_callSI (pc := 4) (As := [.int r1]) (rest := []) (kJ6_bitCount_0f7a4 l trivial  hc4) cw_X3_48 (by decide) dX3_countLost_4 rfl (Nat.le_of_ble_eq_true rfl) ?_
  exact wk_iret (pc := 7) dX3_countLost_7 rfl (xI_of hf)
noncomputable def sX6_isMissing (k : Nat) (s : xS) : Option (Int32 × xS) := xlet ((if (s k 0) = 0 then (1 : Int32) else (0 : Int32))) (fun y12d => (if y12d = 0 ∨ y12d = 1 then some (y12d, s) else none))
set_option maxHeartbeats 4000000 in
set_option maxRecDepth 100000 in
theorem kX6_isMissing (l : Launch) {G : xG} (hG : xC1 G)  {k : Nat} (hk : k ∈ lSheet) {s : xS} {r : Int32} {s' : xS} (hf : sX6_isMissing k s = some (r, s')) : xMet l G 2 yX6_isMissing cX6_isMissing 1 (some .boolean) [.ref (gA G k)] s (xI r s') := by
  refine xMet.of (by decide) (Nat.le_of_ble_eq_true rfl) ?_
  show wk l G 2 RX6 cX6_isMissing 1 (some .boolean) (xI r s') 0 [(0, .ref (gA G k))] [] s
  unfold sX6_isMissing at hf
  refine wk_aload_n (pc := 0) dX6_isMissing_0 rfl 0 rfl ?_
  refine wk_getI (C := RX6) (T := TX6) (N := 3) (pc := 1) dX6_isMissing_1 (sX6_0 hG hk).2 (sX6_0 hG hk).1 rfl qU_X6 0 (by decide) qF_X6_9 rfl ?_
  obtain ⟨y12d, hy12d, hf⟩ := xlet_some hf
  have K12 : wk l G 2 RX6 cX6_isMissing 1 (some .boolean) (xI r s') 12 [(0, .ref (gA G k))] [.int y12d] s := by
    obtain ⟨h12, hf⟩ := xif_some hf
    exact wk_zret (pc := 12) dX6_isMissing_12 rfl (x01n h12) (xI_of hf)
  by_cases c4 : (s k 0) = 0
  · rw [if_pos c4] at hy12d
    refine wk_if_ne_p (pc := 4) (tgt := 11) dX6_isMissing_4 rfl c4 ?_
    refine wk_iconst (pc := 7) (v := (1 : Int32)) dX6_isMissing_7 (by decide) ?_
    refine wk_goto (pc := 8) (tgt := 12) dX6_isMissing_8 rfl ?_
    exact wk_top hy12d K12
  · rw [if_neg c4] at hy12d
    refine wk_if_ne_m (pc := 4) (tgt := 11) dX6_isMissing_4 rfl c4 ?_
    refine wk_iconst (pc := 11) (v := (0 : Int32)) dX6_isMissing_11 (by decide) ?_
    exact wk_top hy12d K12
noncomputable def sX7_own (rc : Int32 → Int32 → Int32 → Int32 → xS → Option (Int32 × xS)) (p1 : Int32) (p2 : Int32) (p3 : Int32) (s : xS) : Option (Int32 × xS) := xbind (rc (s 54 2) p1 p2 (p3 + (1 : Int32)) s) (fun r10 s10 => some (r10, s10))
set_option maxHeartbeats 4000000 in
set_option maxRecDepth 100000 in
theorem kX7_own (l : Launch) {G : xG} (hG : xC1 G) {m0 : Nat} {rc : Int32 → Int32 → Int32 → Int32 → xS → Option (Int32 × xS)} (Hrc : ∀ (q0 : Int32) (q1 : Int32) (q2 : Int32) (q3 : Int32) (s : xS) (r : Int32) (s' : xS), rc q0 q1 q2 q3 s = some (r, s') → xMet l G m0 yX7_sayFrom cX7_sayFrom 7 (some .int) [.ref (gA G 54), .int q0, .int q1, .int q2, .int q3] s (xI r s')) {p1 : Int32} {p2 : Int32} {p3 : Int32}  {s : xS} {r : Int32} {s' : xS} (hf : sX7_own rc p1 p2 p3 s = some (r, s')) : xMet l G (m0 + 2) yX7_own cX7_own 4 (some .int) [.ref (gA G 54), .int p1, .int p2, .int p3] s (xI r s') := by
  refine xMet.of (by decide) (Nat.le_of_ble_eq_true rfl) ?_
  show wk l G (m0 + 2) RX7 cX7_own 4 (some .int) (xI r s') 0 [(0, .ref (gA G 54)), (1, .int p1), (2, .int p2), (3, .int p3)] [] s
  unfold sX7_own at hf
  refine wk_aload_n (pc := 0) dX7_own_0 rfl 0 rfl ?_
  refine wk_aload_n (pc := 1) dX7_own_1 rfl 0 rfl ?_
  refine wk_getI (C := RX7) (T := TX7) (N := 5) (pc := 2) dX7_own_2 (nc_54 hG).2 (nc_54 hG).1 rfl qU_X7 2 (by decide) qF_X7_19 rfl ?_
  refine wk_iload_n (pc := 5) dX7_own_5 rfl 1 rfl ?_
  refine wk_iload_n (pc := 6) dX7_own_6 rfl 2 rfl ?_
  refine wk_iload_n (pc := 7) dX7_own_7 rfl 3 rfl ?_
  refine wk_iconst (pc := 8) (v := (1 : Int32)) dX7_own_8 (by decide) ?_
  refine wk_iadd (pc := 9) dX7_own_9 ?_
  obtain ⟨r10, s10, hc10, hf⟩ := xbind_some hf
  refine wk_callVI (pc := 10) (As := [.int (s 54 2), .int p1, .int p2, .int (p3 + (1 : Int32))]) (rest := []) (Hrc (s 54 2) p1 p2 (p3 + (1 : Int32)) s _ _ hc10) cw_X7_32 (by omega) dX7_own_10 (nc_54 hG).2 (nc_54 hG).1 rfl rfl rfl (Nat.le_of_ble_eq_true rfl) ?_
  exact wk_iret (pc := 13) dX7_own_13 rfl (xI_of hf)
noncomputable def sX7_above (rc : Int32 → Int32 → Int32 → Int32 → xS → Option (Int32 × xS)) (p1 : Int32) (p2 : Int32) (p3 : Int32) (p4 : Int32) (s : xS) : Option (Int32 × xS) := (if xin ((p1 / (10 : Int32)) - (1 : Int32)) 7 then xbind (rc (xAbove.getD ((p1 / (10 : Int32)) - (1 : Int32)).toNatClampNeg 0) p2 p3 (p4 + (1 : Int32)) s) (fun r17 s17 => some (r17, s17)) else none)
set_option maxHeartbeats 4000000 in
set_option maxRecDepth 100000 in
theorem kX7_above (l : Launch) {G : xG} (hG : xC1 G) {m0 : Nat} {rc : Int32 → Int32 → Int32 → Int32 → xS → Option (Int32 × xS)} (Hrc : ∀ (q0 : Int32) (q1 : Int32) (q2 : Int32) (q3 : Int32) (s : xS) (r : Int32) (s' : xS), rc q0 q1 q2 q3 s = some (r, s') → xMet l G m0 yX7_sayFrom cX7_sayFrom 7 (some .int) [.ref (gA G 54), .int q0, .int q1, .int q2, .int q3] s (xI r s')) {p1 : Int32} {p2 : Int32} {p3 : Int32} {p4 : Int32}  {s : xS} {r : Int32} {s' : xS} (hf : sX7_above rc p1 p2 p3 p4 s = some (r, s')) : xMet l G (m0 + 2) yX7_above cX7_above 5 (some .int) [.ref (gA G 54), .int p1, .int p2, .int p3, .int p4] s (xI r s') := by
  refine xMet.of (by decide) (Nat.le_of_ble_eq_true rfl) ?_
  show wk l G (m0 + 2) RX7 cX7_above 5 (some .int) (xI r s') 0 [(0, .ref (gA G 54)), (1, .int p1), (2, .int p2), (3, .int p3), (4, .int p4)] [] s
  unfold sX7_above at hf
  refine wk_aload_n (pc := 0) dX7_above_0 rfl 0 rfl ?_
  refine wk_getsAboveN (pc := 1) dX7_above_1 (host := "OldLight") (by decide) ?_
  refine wk_iload_n (pc := 4) dX7_above_4 rfl 1 rfl ?_
  refine wk_bipush (pc := 5) (v := (10 : Int32)) dX7_above_5 (by decide) ?_
  refine wk_idiv (pc := 7) dX7_above_7 (by decide) ?_
  refine wk_iconst (pc := 8) (v := (1 : Int32)) dX7_above_8 (by decide) ?_
  refine wk_isub (pc := 9) dX7_above_9 ?_
  obtain ⟨h10, hf⟩ := xif_some hf
  refine wk_tldAbove (pc := 10) dX7_above_10 h10 ?_
  refine wk_iload_n (pc := 11) dX7_above_11 rfl 2 rfl ?_
  refine wk_iload_n (pc := 12) dX7_above_12 rfl 3 rfl ?_
  refine wk_iload (pc := 13) dX7_above_13 4 rfl ?_
  refine wk_iconst (pc := 15) (v := (1 : Int32)) dX7_above_15 (by decide) ?_
  refine wk_iadd (pc := 16) dX7_above_16 ?_
  obtain ⟨r17, s17, hc17, hf⟩ := xbind_some hf
  refine wk_callVI (pc := 17) (As := [.int (xAbove.getD ((p1 / (10 : Int32)) - (1 : Int32)).toNatClampNeg 0), .int p2, .int p3, .int (p4 + (1 : Int32))]) (rest := []) (Hrc (xAbove.getD ((p1 / (10 : Int32)) - (1 : Int32)).toNatClampNeg 0) p2 p3 (p4 + (1 : Int32)) s _ _ hc17) cw_X7_32 (by omega) dX7_above_17 (nc_54 hG).2 (nc_54 hG).1 rfl rfl rfl (Nat.le_of_ble_eq_true rfl) ?_
  exact wk_iret (pc := 20) dX7_above_20 rfl (xI_of hf)
noncomputable def sX7_say (rc : Int32 → Int32 → Int32 → Int32 → xS → Option (Int32 × xS)) (p1 : Int32) (p2 : Int32) (p3 : Int32) (s : xS) : Option (Int32 × xS) := (if p1 = 10 then some ((p2 + (s 54 3)), s) else (if p1 = 11 then xbind (sX7_own rc (0 : Int32) p2 p3 s) (fun r103 s103 => some ((r103 * (2 : Int32)), s103)) else (if p1 = 12 then some ((p2 - (s 54 4)), s) else (if p1 = 13 then xbind (sX7_own rc (1 : Int32) p2 p3 s) (fun r120 s120 => xbind (sX7_own rc (2 : Int32) p2 p3 s120) (fun r127 s127 => some ((r120 ^^^ r127), s127))) else (if p1 = 20 then xbind (sX7_above rc p1 (0 : Int32) p2 p3 s) (fun r137 s137 => some ((r137 * (3 : Int32)), s137)) else (if p1 = 30 then xbind (sX7_above rc p1 (1 : Int32) p2 p3 s) (fun r148 s148 => xbind (sX7_own rc (2 : Int32) (1 : Int32) p3 s148) (fun r155 s155 => some ((r148 - r155), s155))) else (if p1 = 40 then xbind (sX7_above rc p1 (2 : Int32) p2 p3 s) (fun r165 s165 => some ((-r165), s165)) else (if p1 = 50 then xbind (sX7_above rc p1 (3 : Int32) p2 p3 s) (fun r175 s175 => xbind (sX7_own rc (0 : Int32) (2 : Int32) p3 s175) (fun r182 s182 => some ((r175 - r182), s182))) else (if p1 = 60 then xbind (sX7_above rc p1 (1 : Int32) (p2 + (1 : Int32)) p3 s) (fun r194 s194 => some (r194, s194)) else (if p1 = 70 then xbind (sX7_above rc p1 (2 : Int32) p2 p3 s) (fun r203 s203 => some ((r203 ^^^ (s203 54 3)), s203)) else xbind (sX7_own rc (1 : Int32) p2 p3 s) (fun r216 s216 => xbind (sX7_above rc p1 (3 : Int32) p2 p3 s216) (fun r224 s224 => some ((r216 - r224), s224)))))))))))))
set_option maxHeartbeats 4000000 in
set_option maxRecDepth 100000 in
theorem kX7_say (l : Launch) {G : xG} (hG : xC1 G) {m0 : Nat} {rc : Int32 → Int32 → Int32 → Int32 → xS → Option (Int32 × xS)} (Hrc : ∀ (q0 : Int32) (q1 : Int32) (q2 : Int32) (q3 : Int32) (s : xS) (r : Int32) (s' : xS), rc q0 q1 q2 q3 s = some (r, s') → xMet l G m0 yX7_sayFrom cX7_sayFrom 7 (some .int) [.ref (gA G 54), .int q0, .int q1, .int q2, .int q3] s (xI r s')) {p1 : Int32} {p2 : Int32} {p3 : Int32}  {s : xS} {r : Int32} {s' : xS} (hf : sX7_say rc p1 p2 p3 s = some (r, s')) : xMet l G (m0 + 3) yX7_say cX7_say 4 (some .int) [.ref (gA G 54), .int p1, .int p2, .int p3] s (xI r s') := by
  refine xMet.of (by decide) (Nat.le_of_ble_eq_true rfl) ?_
  show wk l G (m0 + 3) RX7 cX7_say 4 (some .int) (xI r s') 0 [(0, .ref (gA G 54)), (1, .int p1), (2, .int p2), (3, .int p3)] [] s
  unfold sX7_say at hf
  refine wk_iload_n (pc := 0) dX7_say_0 rfl 1 rfl ?_
  by_cases e0 : p1 = 10
  · rw [if_pos e0] at hf
    refine wk_lookup (pc := 1) (off := 91) (tgt := 92) dX7_say_1 (by decide) (by rw [e0]; decide) rfl ?_
    refine wk_iload_n (pc := 92) dX7_say_92 rfl 2 rfl ?_
    refine wk_aload_n (pc := 93) dX7_say_93 rfl 0 rfl ?_
    refine wk_getI (C := RX7) (T := TX7) (N := 5) (pc := 94) dX7_say_94 (nc_54 hG).2 (nc_54 hG).1 rfl qU_X7 3 (by decide) qF_X7_22 rfl ?_
    refine wk_iadd (pc := 97) dX7_say_97 ?_
    exact wk_iret (pc := 98) dX7_say_98 rfl (xI_of hf)
  · rw [if_neg e0] at hf
    by_cases e1 : p1 = 11
    · rw [if_pos e1] at hf
      refine wk_lookup (pc := 1) (off := 98) (tgt := 99) dX7_say_1 (by decide) (by rw [e1]; decide) rfl ?_
      refine wk_aload_n (pc := 99) dX7_say_99 rfl 0 rfl ?_
      refine wk_iconst (pc := 100) (v := (0 : Int32)) dX7_say_100 (by decide) ?_
      refine wk_iload_n (pc := 101) dX7_say_101 rfl 2 rfl ?_
      refine wk_iload_n (pc := 102) dX7_say_102 rfl 3 rfl ?_
      obtain ⟨r103, s103, hc103, hf⟩ := xbind_some hf
      refine wk_callVI (pc := 103) (As := [.int (0 : Int32), .int p2, .int p3]) (rest := []) (kX7_own l hG Hrc  hc103) cw_X7_28 (by omega) dX7_say_103 (nc_54 hG).2 (nc_54 hG).1 rfl rfl rfl (Nat.le_of_ble_eq_true rfl) ?_
      refine wk_iconst (pc := 106) (v := (2 : Int32)) dX7_say_106 (by decide) ?_
      refine wk_imul (pc := 107) dX7_say_107 ?_
      exact wk_iret (pc := 108) dX7_say_108 rfl (xI_of hf)
    · rw [if_neg e1] at hf
      by_cases e2 : p1 = 12
      · rw [if_pos e2] at hf
        refine wk_lookup (pc := 1) (off := 108) (tgt := 109) dX7_say_1 (by decide) (by rw [e2]; decide) rfl ?_
        refine wk_iload_n (pc := 109) dX7_say_109 rfl 2 rfl ?_
        refine wk_aload_n (pc := 110) dX7_say_110 rfl 0 rfl ?_
        refine wk_getI (C := RX7) (T := TX7) (N := 5) (pc := 111) dX7_say_111 (nc_54 hG).2 (nc_54 hG).1 rfl qU_X7 4 (by decide) qF_X7_25 rfl ?_
        refine wk_isub (pc := 114) dX7_say_114 ?_
        exact wk_iret (pc := 115) dX7_say_115 rfl (xI_of hf)
      · rw [if_neg e2] at hf
        by_cases e3 : p1 = 13
        · rw [if_pos e3] at hf
          refine wk_lookup (pc := 1) (off := 115) (tgt := 116) dX7_say_1 (by decide) (by rw [e3]; decide) rfl ?_
          refine wk_aload_n (pc := 116) dX7_say_116 rfl 0 rfl ?_
          refine wk_iconst (pc := 117) (v := (1 : Int32)) dX7_say_117 (by decide) ?_
          refine wk_iload_n (pc := 118) dX7_say_118 rfl 2 rfl ?_
          refine wk_iload_n (pc := 119) dX7_say_119 rfl 3 rfl ?_
          obtain ⟨r120, s120, hc120, hf⟩ := xbind_some hf
          refine wk_callVI (pc := 120) (As := [.int (1 : Int32), .int p2, .int p3]) (rest := []) (kX7_own l hG Hrc  hc120) cw_X7_28 (by omega) dX7_say_120 (nc_54 hG).2 (nc_54 hG).1 rfl rfl rfl (Nat.le_of_ble_eq_true rfl) ?_
          refine wk_aload_n (pc := 123) dX7_say_123 rfl 0 rfl ?_
          refine wk_iconst (pc := 124) (v := (2 : Int32)) dX7_say_124 (by decide) ?_
          refine wk_iload_n (pc := 125) dX7_say_125 rfl 2 rfl ?_
          refine wk_iload_n (pc := 126) dX7_say_126 rfl 3 rfl ?_
          obtain ⟨r127, s127, hc127, hf⟩ := xbind_some hf
          refine wk_callVI (pc := 127) (As := [.int (2 : Int32), .int p2, .int p3]) (rest := [.int r120]) (kX7_own l hG Hrc  hc127) cw_X7_28 (by omega) dX7_say_127 (nc_54 hG).2 (nc_54 hG).1 rfl rfl rfl (Nat.le_of_ble_eq_true rfl) ?_
          refine wk_ixor (pc := 130) dX7_say_130 ?_
          exact wk_iret (pc := 131) dX7_say_131 rfl (xI_of hf)
        · rw [if_neg e3] at hf
          by_cases e4 : p1 = 20
          · rw [if_pos e4] at hf
            refine wk_lookup (pc := 1) (off := 131) (tgt := 132) dX7_say_1 (by decide) (by rw [e4]; decide) rfl ?_
            refine wk_aload_n (pc := 132) dX7_say_132 rfl 0 rfl ?_
            refine wk_iload_n (pc := 133) dX7_say_133 rfl 1 rfl ?_
            refine wk_iconst (pc := 134) (v := (0 : Int32)) dX7_say_134 (by decide) ?_
            refine wk_iload_n (pc := 135) dX7_say_135 rfl 2 rfl ?_
            refine wk_iload_n (pc := 136) dX7_say_136 rfl 3 rfl ?_
            obtain ⟨r137, s137, hc137, hf⟩ := xbind_some hf
            refine wk_callVI (pc := 137) (As := [.int p1, .int (0 : Int32), .int p2, .int p3]) (rest := []) (kX7_above l hG Hrc  hc137) cw_X7_45 (by omega) dX7_say_137 (nc_54 hG).2 (nc_54 hG).1 rfl rfl rfl (Nat.le_of_ble_eq_true rfl) ?_
            refine wk_iconst (pc := 140) (v := (3 : Int32)) dX7_say_140 (by decide) ?_
            refine wk_imul (pc := 141) dX7_say_141 ?_
            exact wk_iret (pc := 142) dX7_say_142 rfl (xI_of hf)
          · rw [if_neg e4] at hf
            by_cases e5 : p1 = 30
            · rw [if_pos e5] at hf
              refine wk_lookup (pc := 1) (off := 142) (tgt := 143) dX7_say_1 (by decide) (by rw [e5]; decide) rfl ?_
              refine wk_aload_n (pc := 143) dX7_say_143 rfl 0 rfl ?_
              refine wk_iload_n (pc := 144) dX7_say_144 rfl 1 rfl ?_
              refine wk_iconst (pc := 145) (v := (1 : Int32)) dX7_say_145 (by decide) ?_
              refine wk_iload_n (pc := 146) dX7_say_146 rfl 2 rfl ?_
              refine wk_iload_n (pc := 147) dX7_say_147 rfl 3 rfl ?_
              obtain ⟨r148, s148, hc148, hf⟩ := xbind_some hf
              refine wk_callVI (pc := 148) (As := [.int p1, .int (1 : Int32), .int p2, .int p3]) (rest := []) (kX7_above l hG Hrc  hc148) cw_X7_45 (by omega) dX7_say_148 (nc_54 hG).2 (nc_54 hG).1 rfl rfl rfl (Nat.le_of_ble_eq_true rfl) ?_
              refine wk_aload_n (pc := 151) dX7_say_151 rfl 0 rfl ?_
              refine wk_iconst (pc := 152) (v := (2 : Int32)) dX7_say_152 (by decide) ?_
              refine wk_iconst (pc := 153) (v := (1 : Int32)) dX7_say_153 (by decide) ?_
              refine wk_iload_n (pc := 154) dX7_say_154 rfl 3 rfl ?_
              obtain ⟨r155, s155, hc155, hf⟩ := xbind_some hf
              refine wk_callVI (pc := 155) (As := [.int (2 : Int32), .int (1 : Int32), .int p3]) (rest := [.int r148]) (kX7_own l hG Hrc  hc155) cw_X7_28 (by omega) dX7_say_155 (nc_54 hG).2 (nc_54 hG).1 rfl rfl rfl (Nat.le_of_ble_eq_true rfl) ?_
              refine wk_isub (pc := 158) dX7_say_158 ?_
              exact wk_iret (pc := 159) dX7_say_159 rfl (xI_of hf)
            · rw [if_neg e5] at hf
              by_cases e6 : p1 = 40
              · rw [if_pos e6] at hf
                refine wk_lookup (pc := 1) (off := 159) (tgt := 160) dX7_say_1 (by decide) (by rw [e6]; decide) rfl ?_
                refine wk_aload_n (pc := 160) dX7_say_160 rfl 0 rfl ?_
                refine wk_iload_n (pc := 161) dX7_say_161 rfl 1 rfl ?_
                refine wk_iconst (pc := 162) (v := (2 : Int32)) dX7_say_162 (by decide) ?_
                refine wk_iload_n (pc := 163) dX7_say_163 rfl 2 rfl ?_
                refine wk_iload_n (pc := 164) dX7_say_164 rfl 3 rfl ?_
                obtain ⟨r165, s165, hc165, hf⟩ := xbind_some hf
                refine wk_callVI (pc := 165) (As := [.int p1, .int (2 : Int32), .int p2, .int p3]) (rest := []) (kX7_above l hG Hrc  hc165) cw_X7_45 (by omega) dX7_say_165 (nc_54 hG).2 (nc_54 hG).1 rfl rfl rfl (Nat.le_of_ble_eq_true rfl) ?_
                refine wk_ineg (pc := 168) dX7_say_168 ?_
                exact wk_iret (pc := 169) dX7_say_169 rfl (xI_of hf)
              · rw [if_neg e6] at hf
                by_cases e7 : p1 = 50
                · rw [if_pos e7] at hf
                  refine wk_lookup (pc := 1) (off := 169) (tgt := 170) dX7_say_1 (by decide) (by rw [e7]; decide) rfl ?_
                  refine wk_aload_n (pc := 170) dX7_say_170 rfl 0 rfl ?_
                  refine wk_iload_n (pc := 171) dX7_say_171 rfl 1 rfl ?_
                  refine wk_iconst (pc := 172) (v := (3 : Int32)) dX7_say_172 (by decide) ?_
                  refine wk_iload_n (pc := 173) dX7_say_173 rfl 2 rfl ?_
                  refine wk_iload_n (pc := 174) dX7_say_174 rfl 3 rfl ?_
                  obtain ⟨r175, s175, hc175, hf⟩ := xbind_some hf
                  refine wk_callVI (pc := 175) (As := [.int p1, .int (3 : Int32), .int p2, .int p3]) (rest := []) (kX7_above l hG Hrc  hc175) cw_X7_45 (by omega) dX7_say_175 (nc_54 hG).2 (nc_54 hG).1 rfl rfl rfl (Nat.le_of_ble_eq_true rfl) ?_
                  refine wk_aload_n (pc := 178) dX7_say_178 rfl 0 rfl ?_
                  refine wk_iconst (pc := 179) (v := (0 : Int32)) dX7_say_179 (by decide) ?_
                  refine wk_iconst (pc := 180) (v := (2 : Int32)) dX7_say_180 (by decide) ?_
                  refine wk_iload_n (pc := 181) dX7_say_181 rfl 3 rfl ?_
                  obtain ⟨r182, s182, hc182, hf⟩ := xbind_some hf
                  refine wk_callVI (pc := 182) (As := [.int (0 : Int32), .int (2 : Int32), .int p3]) (rest := [.int r175]) (kX7_own l hG Hrc  hc182) cw_X7_28 (by omega) dX7_say_182 (nc_54 hG).2 (nc_54 hG).1 rfl rfl rfl (Nat.le_of_ble_eq_true rfl) ?_
                  refine wk_isub (pc := 185) dX7_say_185 ?_
                  exact wk_iret (pc := 186) dX7_say_186 rfl (xI_of hf)
                · rw [if_neg e7] at hf
                  by_cases e8 : p1 = 60
                  · rw [if_pos e8] at hf
                    refine wk_lookup (pc := 1) (off := 186) (tgt := 187) dX7_say_1 (by decide) (by rw [e8]; decide) rfl ?_
                    refine wk_aload_n (pc := 187) dX7_say_187 rfl 0 rfl ?_
                    refine wk_iload_n (pc := 188) dX7_say_188 rfl 1 rfl ?_
                    refine wk_iconst (pc := 189) (v := (1 : Int32)) dX7_say_189 (by decide) ?_
                    refine wk_iload_n (pc := 190) dX7_say_190 rfl 2 rfl ?_
                    refine wk_iconst (pc := 191) (v := (1 : Int32)) dX7_say_191 (by decide) ?_
                    refine wk_iadd (pc := 192) dX7_say_192 ?_
                    refine wk_iload_n (pc := 193) dX7_say_193 rfl 3 rfl ?_
                    obtain ⟨r194, s194, hc194, hf⟩ := xbind_some hf
                    refine wk_callVI (pc := 194) (As := [.int p1, .int (1 : Int32), .int (p2 + (1 : Int32)), .int p3]) (rest := []) (kX7_above l hG Hrc  hc194) cw_X7_45 (by omega) dX7_say_194 (nc_54 hG).2 (nc_54 hG).1 rfl rfl rfl (Nat.le_of_ble_eq_true rfl) ?_
                    exact wk_iret (pc := 197) dX7_say_197 rfl (xI_of hf)
                  · rw [if_neg e8] at hf
                    by_cases e9 : p1 = 70
                    · rw [if_pos e9] at hf
                      refine wk_lookup (pc := 1) (off := 197) (tgt := 198) dX7_say_1 (by decide) (by rw [e9]; decide) rfl ?_
                      refine wk_aload_n (pc := 198) dX7_say_198 rfl 0 rfl ?_
                      refine wk_iload_n (pc := 199) dX7_say_199 rfl 1 rfl ?_
                      refine wk_iconst (pc := 200) (v := (2 : Int32)) dX7_say_200 (by decide) ?_
                      refine wk_iload_n (pc := 201) dX7_say_201 rfl 2 rfl ?_
                      refine wk_iload_n (pc := 202) dX7_say_202 rfl 3 rfl ?_
                      obtain ⟨r203, s203, hc203, hf⟩ := xbind_some hf
                      refine wk_callVI (pc := 203) (As := [.int p1, .int (2 : Int32), .int p2, .int p3]) (rest := []) (kX7_above l hG Hrc  hc203) cw_X7_45 (by omega) dX7_say_203 (nc_54 hG).2 (nc_54 hG).1 rfl rfl rfl (Nat.le_of_ble_eq_true rfl) ?_
                      refine wk_aload_n (pc := 206) dX7_say_206 rfl 0 rfl ?_
                      refine wk_getI (C := RX7) (T := TX7) (N := 5) (pc := 207) dX7_say_207 (nc_54 hG).2 (nc_54 hG).1 rfl qU_X7 3 (by decide) qF_X7_22 rfl ?_
                      refine wk_ixor (pc := 210) dX7_say_210 ?_
                      exact wk_iret (pc := 211) dX7_say_211 rfl (xI_of hf)
                    · rw [if_neg e9] at hf
                      refine wk_lookup (pc := 1) (tgt := 212) dX7_say_1 (by decide) ((lv_osw e0 (by decide)).trans ((lv_osw e1 (by decide)).trans ((lv_osw e2 (by decide)).trans ((lv_osw e3 (by decide)).trans ((lv_osw e4 (by decide)).trans ((lv_osw e5 (by decide)).trans ((lv_osw e6 (by decide)).trans ((lv_osw e7 (by decide)).trans ((lv_osw e8 (by decide)).trans ((lv_osw e9 (by decide)).trans (rfl))))))))))) rfl ?_
                      refine wk_aload_n (pc := 212) dX7_say_212 rfl 0 rfl ?_
                      refine wk_iconst (pc := 213) (v := (1 : Int32)) dX7_say_213 (by decide) ?_
                      refine wk_iload_n (pc := 214) dX7_say_214 rfl 2 rfl ?_
                      refine wk_iload_n (pc := 215) dX7_say_215 rfl 3 rfl ?_
                      obtain ⟨r216, s216, hc216, hf⟩ := xbind_some hf
                      refine wk_callVI (pc := 216) (As := [.int (1 : Int32), .int p2, .int p3]) (rest := []) (kX7_own l hG Hrc  hc216) cw_X7_28 (by omega) dX7_say_216 (nc_54 hG).2 (nc_54 hG).1 rfl rfl rfl (Nat.le_of_ble_eq_true rfl) ?_
                      refine wk_aload_n (pc := 219) dX7_say_219 rfl 0 rfl ?_
                      refine wk_iload_n (pc := 220) dX7_say_220 rfl 1 rfl ?_
                      refine wk_iconst (pc := 221) (v := (3 : Int32)) dX7_say_221 (by decide) ?_
                      refine wk_iload_n (pc := 222) dX7_say_222 rfl 2 rfl ?_
                      refine wk_iload_n (pc := 223) dX7_say_223 rfl 3 rfl ?_
                      obtain ⟨r224, s224, hc224, hf⟩ := xbind_some hf
                      refine wk_callVI (pc := 224) (As := [.int p1, .int (3 : Int32), .int p2, .int p3]) (rest := [.int r216]) (kX7_above l hG Hrc  hc224) cw_X7_45 (by omega) dX7_say_224 (nc_54 hG).2 (nc_54 hG).1 rfl rfl rfl (Nat.le_of_ble_eq_true rfl) ?_
                      refine wk_isub (pc := 227) dX7_say_227 ?_
                      exact wk_iret (pc := 228) dX7_say_228 rfl (xI_of hf)
noncomputable def sX7_sayFrom_L91 (p3 : Int32) (p4 : Int32) (rc : Int32 → Int32 → Int32 → Int32 → xS → Option (Int32 × xS)) (y59 : Int32)  (s91 : xS) : Option (Int32 × xS) := xbind (sX7_say rc y59 p3 p4 s91) (fun r97 s97 => some (r97, s97))
noncomputable def sX7_sayFrom_L49 (p2 : Int32) (p3 : Int32) (p4 : Int32) (rc : Int32 → Int32 → Int32 → Int32 → xS → Option (Int32 × xS)) (a5_15 : Int32)  (s49 : xS) : Option (Int32 × xS) := (if xin (((4 : Int32) * a5_15) + p2) 28 then xlet ((xBodies.getD (((4 : Int32) * a5_15) + p2).toNatClampNeg 0)) (fun y59 => (if (40 : Int32) ≤ (s49 54 0) then (sX7_sayFrom_L91 p3 p4 rc y59)  s49 else (if xin (s49 54 0) 40 then xlet (xup s49 55 (upd (s49 55) (s49 54 0).toNatClampNeg y59)) (fun s80 => xlet (xup s80 54 (upd (s80 54) 0 ((s80 54 0) + (1 : Int32)))) (fun s88 => (sX7_sayFrom_L91 p3 p4 rc y59)  s88)) else none))) else none)
noncomputable def sX7_sayFrom_L15 (p2 : Int32) (p3 : Int32) (p4 : Int32) (rc : Int32 → Int32 → Int32 → Int32 → xS → Option (Int32 × xS)) (self15 : Int32 × Int32 → xS → Option (Int32 × xS)) : Int32 × Int32 → xS → Option (Int32 × xS) := fun (a5_15, a6_15) s15 => (if (6 : Int32) ≤ a6_15 then (sX7_sayFrom_L49 p2 p3 p4 rc a5_15)  s15 else (if xin (((4 : Int32) * a5_15) + p2) 28 then (if (xBodies.getD (((4 : Int32) * a5_15) + p2).toNatClampNeg 0) = 0 then (if xin a5_15 7 then xlet ((xAbove.getD a5_15.toNatClampNeg 0)) (fun y41 => xlet (a6_15 + (1 : Int32)) (fun y43 => self15 (y41, y43) s15)) else none) else (sX7_sayFrom_L49 p2 p3 p4 rc a5_15)  s15) else none))
noncomputable def sX7_sayFrom_body (rc : Int32 → Int32 → Int32 → Int32 → xS → Option (Int32 × xS)) (p1 : Int32) (p2 : Int32) (p3 : Int32) (p4 : Int32) (s : xS) : Option (Int32 × xS) := (if p4 ≤ (20 : Int32) then xloop (sX7_sayFrom_L15 p2 p3 p4 rc) xF (p1, (0 : Int32)) s else some ((0 : Int32), s))
noncomputable def sX7_sayFrom : Nat → Int32 → Int32 → Int32 → Int32 → xS → Option (Int32 × xS)
  | 0 => fun _ _ _ _ _ => none
  | d + 1 => fun p1 p2 p3 p4 s => sX7_sayFrom_body (sX7_sayFrom d) p1 p2 p3 p4 s
set_option maxHeartbeats 4000000 in
set_option maxRecDepth 100000 in
theorem kX7_sayFrom_body (l : Launch) {G : xG} (hG : xC1 G) {m0 : Nat} {rc : Int32 → Int32 → Int32 → Int32 → xS → Option (Int32 × xS)} (Hrc : ∀ (q0 : Int32) (q1 : Int32) (q2 : Int32) (q3 : Int32) (s : xS) (r : Int32) (s' : xS), rc q0 q1 q2 q3 s = some (r, s') → xMet l G m0 yX7_sayFrom cX7_sayFrom 7 (some .int) [.ref (gA G 54), .int q0, .int q1, .int q2, .int q3] s (xI r s')) {p1 : Int32} {p2 : Int32} {p3 : Int32} {p4 : Int32}  {s : xS} {r : Int32} {s' : xS} (hf : sX7_sayFrom_body rc p1 p2 p3 p4 s = some (r, s')) : xMet l G (m0 + 4) yX7_sayFrom cX7_sayFrom 7 (some .int) [.ref (gA G 54), .int p1, .int p2, .int p3, .int p4] s (xI r s') := by
  refine xMet.of (by decide) (Nat.le_of_ble_eq_true rfl) ?_
  show wk l G (m0 + 4) RX7 cX7_sayFrom 7 (some .int) (xI r s') 0 [(0, .ref (gA G 54)), (1, .int p1), (2, .int p2), (3, .int p3), (4, .int p4)] [] s
  unfold sX7_sayFrom_body at hf
  have J91 : ∀ (y59 : Int32)    (s91 : xS), (sX7_sayFrom_L91 p3 p4 rc y59)  s91 = some (r, s') → wk l G (m0 + 4) RX7 cX7_sayFrom 7 (some .int) (xI r s') 91 [(0, .ref (gA G 54)), (3, .int p3), (4, .int p4), (6, .int y59)] [] s91 := by
    intro y59 s91 hf
    unfold sX7_sayFrom_L91 at hf
    refine wk_aload_n (pc := 91) dX7_sayFrom_91 rfl 0 rfl ?_
    refine wk_iload (pc := 92) dX7_sayFrom_92 3 rfl ?_
    refine wk_iload_n (pc := 94) dX7_sayFrom_94 rfl 1 rfl ?_
    refine wk_iload (pc := 95) dX7_sayFrom_95 2 rfl ?_
    obtain ⟨r97, s97, hc97, hf⟩ := xbind_some hf
    refine wk_callVI (pc := 97) (As := [.int y59, .int p3, .int p4]) (rest := []) (kX7_say l hG Hrc  hc97) cw_X7_42 (by omega) dX7_sayFrom_97 (nc_54 hG).2 (nc_54 hG).1 rfl rfl rfl (Nat.le_of_ble_eq_true rfl) ?_
    exact wk_iret (pc := 100) dX7_sayFrom_100 rfl (xI_of hf)
  have J49 : ∀ (a5_15 : Int32)    (s49 : xS), (sX7_sayFrom_L49 p2 p3 p4 rc a5_15)  s49 = some (r, s') → wk l G (m0 + 4) RX7 cX7_sayFrom 7 (some .int) (xI r s') 49 [(0, .ref (gA G 54)), (2, .int p2), (3, .int p3), (4, .int p4), (5, .int a5_15)] [] s49 := by
    intro a5_15 s49 hf
    unfold sX7_sayFrom_L49 at hf
    refine wk_getsBodies (pc := 49) dX7_sayFrom_49 qF_X7_39 ?_
    refine wk_iconst (pc := 52) (v := (4 : Int32)) dX7_sayFrom_52 (by decide) ?_
    refine wk_iload (pc := 53) dX7_sayFrom_53 4 rfl ?_
    refine wk_imul (pc := 55) dX7_sayFrom_55 ?_
    refine wk_iload_n (pc := 56) dX7_sayFrom_56 rfl 1 rfl ?_
    refine wk_iadd (pc := 57) dX7_sayFrom_57 ?_
    obtain ⟨h58, hf⟩ := xif_some hf
    refine wk_tldBodies (pc := 58) dX7_sayFrom_58 h58 ?_
    obtain ⟨y59, hy59, hf⟩ := xlet_some hf
    refine wk_top hy59 ?_
    refine wk_istore (pc := 59) (lv' := [(6, .int y59), (0, .ref (gA G 54)), (2, .int p2), (3, .int p3), (4, .int p4), (5, .int a5_15)]) dX7_sayFrom_59 (by decide) rfl ?_
    refine wk_aload_n (pc := 61) dX7_sayFrom_61 rfl 1 rfl ?_
    refine wk_getI (C := RX7) (T := TX7) (N := 5) (pc := 62) dX7_sayFrom_62 (nc_54 hG).2 (nc_54 hG).1 rfl qU_X7 0 (by decide) qF_X7_9 rfl ?_
    refine wk_bipush (pc := 65) (v := (40 : Int32)) dX7_sayFrom_65 (by decide) ?_
    refine wk_icmp_ge (pc := 67) (tgt := 91) dX7_sayFrom_67 rfl hf (fun hf => ?_) (fun hf => ?_)
    · exact wk_lv [1, 3, 4, 0] rfl (J91 y59   s49 hf)
    · refine wk_aload_n (pc := 70) dX7_sayFrom_70 rfl 1 rfl ?_
      refine wk_getR (C := RX7) (T := TX7) (N := 5) (pc := 71) dX7_sayFrom_71 (nc_54 hG).2 (nc_54 hG).1 rfl qU_X7 1 (by decide) qF_X7_15 rfl ?_
      refine wk_aload_n (pc := 74) dX7_sayFrom_74 rfl 1 rfl ?_
      refine wk_getI (C := RX7) (T := TX7) (N := 5) (pc := 75) dX7_sayFrom_75 (nc_54 hG).2 (nc_54 hG).1 rfl qU_X7 0 (by decide) qF_X7_9 rfl ?_
      refine wk_iload (pc := 78) dX7_sayFrom_78 0 rfl ?_
      obtain ⟨h80, hf⟩ := xif_some hf
      refine wk_iast (pc := 80) (jj := (s49 54 0).toNatClampNeg) dX7_sayFrom_80 (nc_55 hG).2 (nc_55 hG).1 h80 rfl ?_
      obtain ⟨s80, hs80, hf⟩ := xlet_some hf
      refine wk_sig hs80 ?_
      refine wk_aload_n (pc := 81) dX7_sayFrom_81 rfl 1 rfl ?_
      refine wk_dup (pc := 82) dX7_sayFrom_82 rfl ?_
      refine wk_getI (C := RX7) (T := TX7) (N := 5) (pc := 83) dX7_sayFrom_83 (nc_54 hG).2 (nc_54 hG).1 rfl qU_X7 0 (by decide) qF_X7_9 rfl ?_
      refine wk_iconst (pc := 86) (v := (1 : Int32)) dX7_sayFrom_86 (by decide) ?_
      refine wk_iadd (pc := 87) dX7_sayFrom_87 ?_
      refine wk_putI (C := RX7) (T := TX7) (N := 5) (ty := .int) (pc := 88) dX7_sayFrom_88 (nc_54 hG).2 (nc_54 hG).1 rfl qU_X7 tyX7 tyX7_ok nmX7 0 (by decide) qF_X7_9 rfl rfl rfl rfl rfl ?_
      obtain ⟨s88, hs88, hf⟩ := xlet_some hf
      refine wk_sig hs88 ?_
      exact wk_lv [1, 3, 4, 0] rfl (J91 y59   s88 hf)
  have J15 : ∀   (N : Nat) (a5_15 : Int32) (a6_15 : Int32)  (s15 : xS), xloop (sX7_sayFrom_L15 p2 p3 p4 rc) N (a5_15, a6_15) s15 = some (r, s') → wk l G (m0 + 4) RX7 cX7_sayFrom 7 (some .int) (xI r s') 15 [(0, .ref (gA G 54)), (2, .int p2), (3, .int p3), (4, .int p4), (5, .int a5_15), (6, .int a6_15)] [] s15 := by
    intro N
    induction N with
    | zero => intro a5_15 a6_15 s15 hf; exact (xloop_0 hf).elim
    | succ N ih15 =>
      intro a5_15 a6_15 s15 hf
      rw [xloop_s] at hf
      generalize xloop (sX7_sayFrom_L15 p2 p3 p4 rc) N = self15 at hf ih15
      unfold sX7_sayFrom_L15 at hf
      dsimp only at hf
      refine wk_iload (pc := 15) dX7_sayFrom_15 5 rfl ?_
      refine wk_bipush (pc := 17) (v := (6 : Int32)) dX7_sayFrom_17 (by decide) ?_
      refine wk_icmp_ge (pc := 19) (tgt := 49) dX7_sayFrom_19 rfl hf (fun hf => ?_) (fun hf => ?_)
      · exact wk_lv [0, 1, 2, 3, 4] rfl (J49 a5_15   s15 hf)
      · refine wk_getsBodies (pc := 22) dX7_sayFrom_22 qF_X7_39 ?_
        refine wk_iconst (pc := 25) (v := (4 : Int32)) dX7_sayFrom_25 (by decide) ?_
        refine wk_iload (pc := 26) dX7_sayFrom_26 4 rfl ?_
        refine wk_imul (pc := 28) dX7_sayFrom_28 ?_
        refine wk_iload_n (pc := 29) dX7_sayFrom_29 rfl 1 rfl ?_
        refine wk_iadd (pc := 30) dX7_sayFrom_30 ?_
        obtain ⟨h31, hf⟩ := xif_some hf
        refine wk_tldBodies (pc := 31) dX7_sayFrom_31 h31 ?_
        refine wk_if_ne (pc := 32) (tgt := 49) dX7_sayFrom_32 rfl hf (fun hf => ?_) (fun hf => ?_)
        · exact wk_lv [0, 1, 2, 3, 4] rfl (J49 a5_15   s15 hf)
        · refine wk_getsAboveN (pc := 35) dX7_sayFrom_35 (host := "OldLight") (by decide) ?_
          refine wk_iload (pc := 38) dX7_sayFrom_38 4 rfl ?_
          obtain ⟨h40, hf⟩ := xif_some hf
          refine wk_tldAbove (pc := 40) dX7_sayFrom_40 h40 ?_
          obtain ⟨y41, hy41, hf⟩ := xlet_some hf
          refine wk_top hy41 ?_
          refine wk_istore (pc := 41) (lv' := [(5, .int y41), (0, .ref (gA G 54)), (2, .int p2), (3, .int p3), (4, .int p4), (6, .int a6_15)]) dX7_sayFrom_41 (by decide) rfl ?_
          obtain ⟨y43, hy43, hf⟩ := xlet_some hf
          refine wk_iinc (pc := 43) (v := y43) (lv' := [(6, .int y43), (5, .int y41), (0, .ref (gA G 54)), (2, .int p2), (3, .int p3), (4, .int p4)]) dX7_sayFrom_43 5 rfl (by rw [hy43] <;> rfl) (by decide) rfl ?_
          refine wk_goto (pc := 46) (tgt := 15) dX7_sayFrom_46 rfl ?_
          exact wk_lv [2, 3, 4, 5, 1, 0] rfl (ih15 y41 y43  s15 hf)
  refine wk_iload (pc := 0) dX7_sayFrom_0 4 rfl ?_
  refine wk_bipush (pc := 2) (v := (20 : Int32)) dX7_sayFrom_2 (by decide) ?_
  refine wk_icmp_le (pc := 4) (tgt := 9) dX7_sayFrom_4 rfl hf (fun hf => ?_) (fun hf => ?_)
  · refine wk_iload_n (pc := 9) dX7_sayFrom_9 rfl 1 rfl ?_
    refine wk_istore (pc := 10) (lv' := [(5, .int p1), (0, .ref (gA G 54)), (1, .int p1), (2, .int p2), (3, .int p3), (4, .int p4)]) dX7_sayFrom_10 (by decide) rfl ?_
    refine wk_iconst (pc := 12) (v := (0 : Int32)) dX7_sayFrom_12 (by decide) ?_
    refine wk_istore (pc := 13) (lv' := [(6, .int (0 : Int32)), (5, .int p1), (0, .ref (gA G 54)), (1, .int p1), (2, .int p2), (3, .int p3), (4, .int p4)]) dX7_sayFrom_13 (by decide) rfl ?_
    exact wk_lv [2, 4, 5, 6, 1, 0] rfl (J15  xF p1 (0 : Int32)  s hf)
  · refine wk_iconst (pc := 7) (v := (0 : Int32)) dX7_sayFrom_7 (by decide) ?_
    exact wk_iret (pc := 8) dX7_sayFrom_8 rfl (xI_of hf)
theorem kX7_sayFrom_all (l : Launch) {G : xG} (hG : xC1 G) : ∀ (d : Nat) (p1 : Int32) (p2 : Int32) (p3 : Int32) (p4 : Int32) (s : xS) (r : Int32) (s' : xS), sX7_sayFrom d p1 p2 p3 p4 s = some (r, s') → xMet l G (4 * d) yX7_sayFrom cX7_sayFrom 7 (some .int) [.ref (gA G 54), .int p1, .int p2, .int p3, .int p4] s (xI r s') := by
  intro d
  induction d with
  | zero => intro p1 p2 p3 p4 s r s' hf; cases hf
  | succ d ih => intro p1 p2 p3 p4 s r s' hf; exact kX7_sayFrom_body l hG (m0 := 4 * d) ih hf
noncomputable def sX7_speak (p1 : Int32) (p2 : Int32) (p3 : Int32) (p4 : Int32) (p5 : Int32) (s : xS) : Option (Int32 × xS) := xlet (xup s 54 (upd (s 54) 2 p1)) (fun s2 => xlet (xup s2 54 (upd (s2 54) 3 p2)) (fun s7 => xlet (xup s7 54 (upd (s7 54) 4 p3)) (fun s12 => xlet (xup s12 54 (upd (s12 54) 0 (0 : Int32))) (fun s17 => xbind (sX7_own (sX7_sayFrom 24) p4 p5 (0 : Int32) s17) (fun r26 s26 => some (r26, s26))))))
set_option maxHeartbeats 4000000 in
set_option maxRecDepth 100000 in
theorem kX7_speak (l : Launch) {G : xG} (hG : xC1 G)  {p1 : Int32} {p2 : Int32} {p3 : Int32} {p4 : Int32} {p5 : Int32}  {s : xS} {r : Int32} {s' : xS} (hf : sX7_speak p1 p2 p3 p4 p5 s = some (r, s')) : xMet l G 99 yX7_speak cX7_speak 6 (some .int) [.ref (gA G 54), .int p1, .int p2, .int p3, .int p4, .int p5] s (xI r s') := by
  refine xMet.of (by decide) (Nat.le_of_ble_eq_true rfl) ?_
  show wk l G 99 RX7 cX7_speak 6 (some .int) (xI r s') 0 [(0, .ref (gA G 54)), (1, .int p1), (2, .int p2), (3, .int p3), (4, .int p4), (5, .int p5)] [] s
  unfold sX7_speak at hf
  refine wk_aload_n (pc := 0) dX7_speak_0 rfl 0 rfl ?_
  refine wk_iload_n (pc := 1) dX7_speak_1 rfl 1 rfl ?_
  refine wk_putI (C := RX7) (T := TX7) (N := 5) (ty := .int) (pc := 2) dX7_speak_2 (nc_54 hG).2 (nc_54 hG).1 rfl qU_X7 tyX7 tyX7_ok nmX7 2 (by decide) qF_X7_19 rfl rfl rfl rfl rfl ?_
  obtain ⟨s2, hs2, hf⟩ := xlet_some hf
  refine wk_sig hs2 ?_
  refine wk_aload_n (pc := 5) dX7_speak_5 rfl 0 rfl ?_
  refine wk_iload_n (pc := 6) dX7_speak_6 rfl 2 rfl ?_
  refine wk_putI (C := RX7) (T := TX7) (N := 5) (ty := .int) (pc := 7) dX7_speak_7 (nc_54 hG).2 (nc_54 hG).1 rfl qU_X7 tyX7 tyX7_ok nmX7 3 (by decide) qF_X7_22 rfl rfl rfl rfl rfl ?_
  obtain ⟨s7, hs7, hf⟩ := xlet_some hf
  refine wk_sig hs7 ?_
  refine wk_aload_n (pc := 10) dX7_speak_10 rfl 0 rfl ?_
  refine wk_iload_n (pc := 11) dX7_speak_11 rfl 3 rfl ?_
  refine wk_putI (C := RX7) (T := TX7) (N := 5) (ty := .int) (pc := 12) dX7_speak_12 (nc_54 hG).2 (nc_54 hG).1 rfl qU_X7 tyX7 tyX7_ok nmX7 4 (by decide) qF_X7_25 rfl rfl rfl rfl rfl ?_
  obtain ⟨s12, hs12, hf⟩ := xlet_some hf
  refine wk_sig hs12 ?_
  refine wk_aload_n (pc := 15) dX7_speak_15 rfl 0 rfl ?_
  refine wk_iconst (pc := 16) (v := (0 : Int32)) dX7_speak_16 (by decide) ?_
  refine wk_putI (C := RX7) (T := TX7) (N := 5) (ty := .int) (pc := 17) dX7_speak_17 (nc_54 hG).2 (nc_54 hG).1 rfl qU_X7 tyX7 tyX7_ok nmX7 0 (by decide) qF_X7_9 rfl rfl rfl rfl rfl ?_
  obtain ⟨s17, hs17, hf⟩ := xlet_some hf
  refine wk_sig hs17 ?_
  refine wk_aload_n (pc := 20) dX7_speak_20 rfl 0 rfl ?_
  refine wk_iload (pc := 21) dX7_speak_21 4 rfl ?_
  refine wk_iload (pc := 23) dX7_speak_23 5 rfl ?_
  refine wk_iconst (pc := 25) (v := (0 : Int32)) dX7_speak_25 (by decide) ?_
  obtain ⟨r26, s26, hc26, hf⟩ := xbind_some hf
  refine wk_callVI (pc := 26) (As := [.int p4, .int p5, .int (0 : Int32)]) (rest := []) (kX7_own l hG (kX7_sayFrom_all l hG 24)  hc26) cw_X7_28 (by decide) dX7_speak_26 (nc_54 hG).2 (nc_54 hG).1 rfl rfl rfl (Nat.le_of_ble_eq_true rfl) ?_
  exact wk_iret (pc := 29) dX7_speak_29 rfl (xI_of hf)
noncomputable def sX6_renew_L12 (k : Nat) (self12 : Int32 → xS → Option (Unit × xS)) : Int32 → xS → Option (Unit × xS) := fun a3_12 s12 => (if (40 : Int32) ≤ a3_12 then some ((), s12) else (if xin a3_12 40 then xlet (xup s12 (k + 1) (upd (s12 (k + 1)) a3_12.toNatClampNeg (0 : Int32))) (fun s24 => xlet (a3_12 + (1 : Int32)) (fun y25 => self12 y25 s24)) else none))
noncomputable def sX6_renew (k : Nat) (p1 : Int32) (p2 : Int32) (s : xS) : Option (Unit × xS) := xlet (xup s k (upd (s k) 0 p1)) (fun s2 => xlet (xup s2 k (upd (s2 k) 1 p2)) (fun s7 => xloop (sX6_renew_L12 k) xF (0 : Int32) s7))
set_option maxHeartbeats 4000000 in
set_option maxRecDepth 100000 in
theorem kX6_renew (l : Launch) {G : xG} (hG : xC1 G)  {k : Nat} {p1 : Int32} {p2 : Int32} (hk : k ∈ lSheet) {s : xS} {s' : xS} (hf : sX6_renew k p1 p2 s = some ((), s')) : xMet l G 2 yX6_renew cX6_renew 4 none [.ref (gA G k), .int p1, .int p2] s (xU s') := by
  refine xMet.of (by decide) (Nat.le_of_ble_eq_true rfl) ?_
  show wk l G 2 RX6 cX6_renew 4 none (xU s') 0 [(0, .ref (gA G k)), (1, .int p1), (2, .int p2)] [] s
  unfold sX6_renew at hf
  have J12 : ∀   (N : Nat) (a3_12 : Int32)  (s12 : xS), xloop (sX6_renew_L12 k) N a3_12 s12 = some ((), s') → wk l G 2 RX6 cX6_renew 4 none (xU s') 12 [(0, .ref (gA G k)), (3, .int a3_12)] [] s12 := by
    intro N
    induction N with
    | zero => intro a3_12 s12 hf; exact (xloop_0 hf).elim
    | succ N ih12 =>
      intro a3_12 s12 hf
      rw [xloop_s] at hf
      generalize xloop (sX6_renew_L12 k) N = self12 at hf ih12
      unfold sX6_renew_L12 at hf
      refine wk_iload_n (pc := 12) dX6_renew_12 rfl 1 rfl ?_
      refine wk_bipush (pc := 13) (v := (40 : Int32)) dX6_renew_13 (by decide) ?_
      refine wk_icmp_ge (pc := 15) (tgt := 31) dX6_renew_15 rfl hf (fun hf => ?_) (fun hf => ?_)
      · exact wk_vret (pc := 31) dX6_renew_31 rfl (xU_of hf)
      · refine wk_aload_n (pc := 18) dX6_renew_18 rfl 0 rfl ?_
        refine wk_getR (C := RX6) (T := TX6) (N := 3) (pc := 19) dX6_renew_19 (sX6_0 hG hk).2 (sX6_0 hG hk).1 rfl qU_X6 2 (by decide) qF_X6_18 rfl ?_
        refine wk_iload_n (pc := 22) dX6_renew_22 rfl 1 rfl ?_
        refine wk_iconst (pc := 23) (v := (0 : Int32)) dX6_renew_23 (by decide) ?_
        obtain ⟨h24, hf⟩ := xif_some hf
        refine wk_iast (pc := 24) (jj := a3_12.toNatClampNeg) dX6_renew_24 (sX6_1 hG hk).2 (sX6_1 hG hk).1 h24 rfl ?_
        obtain ⟨s24, hs24, hf⟩ := xlet_some hf
        refine wk_sig hs24 ?_
        obtain ⟨y25, hy25, hf⟩ := xlet_some hf
        refine wk_iinc (pc := 25) (v := y25) (lv' := [(3, .int y25), (0, .ref (gA G k))]) dX6_renew_25 1 rfl (by rw [hy25] <;> rfl) (by decide) rfl ?_
        refine wk_goto (pc := 28) (tgt := 12) dX6_renew_28 rfl ?_
        exact wk_lv [1, 0] rfl (ih12 y25  s24 hf)
  refine wk_aload_n (pc := 0) dX6_renew_0 rfl 0 rfl ?_
  refine wk_iload_n (pc := 1) dX6_renew_1 rfl 1 rfl ?_
  refine wk_putI (C := RX6) (T := TX6) (N := 3) (ty := .int) (pc := 2) dX6_renew_2 (sX6_0 hG hk).2 (sX6_0 hG hk).1 rfl qU_X6 tyX6 tyX6_ok nmX6 0 (by decide) qF_X6_9 rfl rfl rfl rfl rfl ?_
  obtain ⟨s2, hs2, hf⟩ := xlet_some hf
  refine wk_sig hs2 ?_
  refine wk_aload_n (pc := 5) dX6_renew_5 rfl 0 rfl ?_
  refine wk_iload_n (pc := 6) dX6_renew_6 rfl 2 rfl ?_
  refine wk_putI (C := RX6) (T := TX6) (N := 3) (ty := .int) (pc := 7) dX6_renew_7 (sX6_0 hG hk).2 (sX6_0 hG hk).1 rfl qU_X6 tyX6 tyX6_ok nmX6 1 (by decide) qF_X6_15 rfl rfl rfl rfl rfl ?_
  obtain ⟨s7, hs7, hf⟩ := xlet_some hf
  refine wk_sig hs7 ?_
  refine wk_iconst (pc := 10) (v := (0 : Int32)) dX6_renew_10 (by decide) ?_
  refine wk_istore_n (pc := 11) (lv' := [(3, .int (0 : Int32)), (0, .ref (gA G k)), (1, .int p1), (2, .int p2)]) dX6_renew_11 rfl (by decide) rfl ?_
  exact wk_lv [1, 0] rfl (J12  xF (0 : Int32)  s7 hf)
noncomputable def sX6_lowest (k : Nat) (p1 : Int32) (s : xS) : Option (Int32 × xS) := (if (s k 0) = (8 : Int32) then some ((p1.toInt8.toInt32), s) else xlet ((if (s k 0) = (16 : Int32) then (p1.toInt16.toInt32) else p1)) (fun y27d => some (y27d, s)))
set_option maxHeartbeats 4000000 in
set_option maxRecDepth 100000 in
theorem kX6_lowest (l : Launch) {G : xG} (hG : xC1 G)  {k : Nat} {p1 : Int32} (hk : k ∈ lSheet) {s : xS} {r : Int32} {s' : xS} (hf : sX6_lowest k p1 s = some (r, s')) : xMet l G 2 yX6_lowest cX6_lowest 2 (some .int) [.ref (gA G k), .int p1] s (xI r s') := by
  refine xMet.of (by decide) (Nat.le_of_ble_eq_true rfl) ?_
  show wk l G 2 RX6 cX6_lowest 2 (some .int) (xI r s') 0 [(0, .ref (gA G k)), (1, .int p1)] [] s
  unfold sX6_lowest at hf
  refine wk_aload_n (pc := 0) dX6_lowest_0 rfl 0 rfl ?_
  refine wk_getI (C := RX6) (T := TX6) (N := 3) (pc := 1) dX6_lowest_1 (sX6_0 hG hk).2 (sX6_0 hG hk).1 rfl qU_X6 0 (by decide) qF_X6_9 rfl ?_
  refine wk_bipush (pc := 4) (v := (8 : Int32)) dX6_lowest_4 (by decide) ?_
  refine wk_icmp_ne (pc := 6) (tgt := 12) dX6_lowest_6 rfl hf (fun hf => ?_) (fun hf => ?_)
  · refine wk_aload_n (pc := 12) dX6_lowest_12 rfl 0 rfl ?_
    refine wk_getI (C := RX6) (T := TX6) (N := 3) (pc := 13) dX6_lowest_13 (sX6_0 hG hk).2 (sX6_0 hG hk).1 rfl qU_X6 0 (by decide) qF_X6_9 rfl ?_
    refine wk_bipush (pc := 16) (v := (16 : Int32)) dX6_lowest_16 (by decide) ?_
    obtain ⟨y27d, hy27d, hf⟩ := xlet_some hf
    have K27 : wk l G 2 RX6 cX6_lowest 2 (some .int) (xI r s') 27 [(0, .ref (gA G k)), (1, .int p1)] [.int y27d] s := by
      exact wk_iret (pc := 27) dX6_lowest_27 rfl (xI_of hf)
    by_cases c18 : (s k 0) = (16 : Int32)
    · rw [if_pos c18] at hy27d
      refine wk_icmp_ne_p (pc := 18) (tgt := 26) dX6_lowest_18 rfl c18 ?_
      refine wk_iload_n (pc := 21) dX6_lowest_21 rfl 1 rfl ?_
      refine wk_i2s (pc := 22) dX6_lowest_22 ?_
      refine wk_goto (pc := 23) (tgt := 27) dX6_lowest_23 rfl ?_
      exact wk_top hy27d K27
    · rw [if_neg c18] at hy27d
      refine wk_icmp_ne_m (pc := 18) (tgt := 26) dX6_lowest_18 rfl c18 ?_
      refine wk_iload_n (pc := 26) dX6_lowest_26 rfl 1 rfl ?_
      exact wk_top hy27d K27
  · refine wk_iload_n (pc := 9) dX6_lowest_9 rfl 1 rfl ?_
    refine wk_i2b (pc := 10) dX6_lowest_10 ?_
    exact wk_iret (pc := 11) dX6_lowest_11 rfl (xI_of hf)
noncomputable def sX6_holds (k : Nat) (p1 : Int32) (p2 : Int32) (s : xS) : Option (Int32 × xS) := xlet ((if p1 < 0 then (0 : Int32) else (if p2 < 0 then (0 : Int32) else (if (s k 1) < p1 then (0 : Int32) else (if ((s k 1) - p1) < p2 then (0 : Int32) else (1 : Int32)))))) (fun y31d => (if y31d = 0 ∨ y31d = 1 then some (y31d, s) else none))
set_option maxHeartbeats 4000000 in
set_option maxRecDepth 100000 in
theorem kX6_holds (l : Launch) {G : xG} (hG : xC1 G)  {k : Nat} {p1 : Int32} {p2 : Int32} (hk : k ∈ lSheet) {s : xS} {r : Int32} {s' : xS} (hf : sX6_holds k p1 p2 s = some (r, s')) : xMet l G 2 yX6_holds cX6_holds 3 (some .boolean) [.ref (gA G k), .int p1, .int p2] s (xI r s') := by
  refine xMet.of (by decide) (Nat.le_of_ble_eq_true rfl) ?_
  show wk l G 2 RX6 cX6_holds 3 (some .boolean) (xI r s') 0 [(0, .ref (gA G k)), (1, .int p1), (2, .int p2)] [] s
  unfold sX6_holds at hf
  refine wk_iload_n (pc := 0) dX6_holds_0 rfl 1 rfl ?_
  obtain ⟨y31d, hy31d, hf⟩ := xlet_some hf
  have K31 : wk l G 2 RX6 cX6_holds 3 (some .boolean) (xI r s') 31 [(0, .ref (gA G k)), (1, .int p1), (2, .int p2)] [.int y31d] s := by
    obtain ⟨h31, hf⟩ := xif_some hf
    exact wk_zret (pc := 31) dX6_holds_31 rfl (x01n h31) (xI_of hf)
  by_cases c1 : p1 < 0
  · rw [if_pos c1] at hy31d
    refine wk_if_lt_p (pc := 1) (tgt := 30) dX6_holds_1 rfl c1 ?_
    refine wk_iconst (pc := 30) (v := (0 : Int32)) dX6_holds_30 (by decide) ?_
    exact wk_top hy31d K31
  · rw [if_neg c1] at hy31d
    refine wk_if_lt_m (pc := 1) (tgt := 30) dX6_holds_1 rfl c1 ?_
    refine wk_iload_n (pc := 4) dX6_holds_4 rfl 2 rfl ?_
    by_cases c5 : p2 < 0
    · rw [if_pos c5] at hy31d
      refine wk_if_lt_p (pc := 5) (tgt := 30) dX6_holds_5 rfl c5 ?_
      refine wk_iconst (pc := 30) (v := (0 : Int32)) dX6_holds_30 (by decide) ?_
      exact wk_top hy31d K31
    · rw [if_neg c5] at hy31d
      refine wk_if_lt_m (pc := 5) (tgt := 30) dX6_holds_5 rfl c5 ?_
      refine wk_iload_n (pc := 8) dX6_holds_8 rfl 1 rfl ?_
      refine wk_aload_n (pc := 9) dX6_holds_9 rfl 0 rfl ?_
      refine wk_getI (C := RX6) (T := TX6) (N := 3) (pc := 10) dX6_holds_10 (sX6_0 hG hk).2 (sX6_0 hG hk).1 rfl qU_X6 1 (by decide) qF_X6_15 rfl ?_
      by_cases c13 : (s k 1) < p1
      · rw [if_pos c13] at hy31d
        refine wk_icmp_gt_p (pc := 13) (tgt := 30) dX6_holds_13 rfl c13 ?_
        refine wk_iconst (pc := 30) (v := (0 : Int32)) dX6_holds_30 (by decide) ?_
        exact wk_top hy31d K31
      · rw [if_neg c13] at hy31d
        refine wk_icmp_gt_m (pc := 13) (tgt := 30) dX6_holds_13 rfl c13 ?_
        refine wk_iload_n (pc := 16) dX6_holds_16 rfl 2 rfl ?_
        refine wk_aload_n (pc := 17) dX6_holds_17 rfl 0 rfl ?_
        refine wk_getI (C := RX6) (T := TX6) (N := 3) (pc := 18) dX6_holds_18 (sX6_0 hG hk).2 (sX6_0 hG hk).1 rfl qU_X6 1 (by decide) qF_X6_15 rfl ?_
        refine wk_iload_n (pc := 21) dX6_holds_21 rfl 1 rfl ?_
        refine wk_isub (pc := 22) dX6_holds_22 ?_
        by_cases c23 : ((s k 1) - p1) < p2
        · rw [if_pos c23] at hy31d
          refine wk_icmp_gt_p (pc := 23) (tgt := 30) dX6_holds_23 rfl c23 ?_
          refine wk_iconst (pc := 30) (v := (0 : Int32)) dX6_holds_30 (by decide) ?_
          exact wk_top hy31d K31
        · rw [if_neg c23] at hy31d
          refine wk_icmp_gt_m (pc := 23) (tgt := 30) dX6_holds_23 rfl c23 ?_
          refine wk_iconst (pc := 26) (v := (1 : Int32)) dX6_holds_26 (by decide) ?_
          refine wk_goto (pc := 27) (tgt := 31) dX6_holds_27 rfl ?_
          exact wk_top hy31d K31
noncomputable def sX2_copyFrom (k : Nat) (p1 : Nat) (s : xS) : Option (Unit × xS) := xlet (xup s k (upd (s k) 0 (s p1 0))) (fun s5 => xlet (xup s5 k (upd (s5 k) 1 (s5 p1 1))) (fun s13 => xlet (xup s13 k (upd (s13 k) 2 (s13 p1 2))) (fun s21 => xlet (xup s21 (k + 1) (va_cpy (s21 (p1 + 1)) (s21 (k + 1)) (0 : Int32).toNatClampNeg (0 : Int32).toNatClampNeg (50 : Int32).toNatClampNeg)) (fun s36 => xlet (xup s36 (k + 2) (va_cpy (s36 (p1 + 2)) (s36 (k + 2)) (0 : Int32).toNatClampNeg (0 : Int32).toNatClampNeg (20 : Int32).toNatClampNeg)) (fun s51 => some ((), s51))))))
set_option maxHeartbeats 4000000 in
set_option maxRecDepth 100000 in
theorem kX2_copyFrom (l : Launch) {G : xG} (hG : xC1 G)  {k : Nat} {p1 : Nat} (hk : k ∈ lDesk) (hp1 : p1 ∈ lDesk) {s : xS} {s' : xS} (hf : sX2_copyFrom k p1 s = some ((), s')) : xMet l G 2 yX2_copyFrom cX2_copyFrom 2 none [.ref (gA G k), .ref (gA G p1)] s (xU s') := by
  refine xMet.of (by decide) (Nat.le_of_ble_eq_true rfl) ?_
  show wk l G 2 RX2 cX2_copyFrom 2 none (xU s') 0 [(0, .ref (gA G k)), (1, .ref (gA G p1))] [] s
  unfold sX2_copyFrom at hf
  refine wk_aload_n (pc := 0) dX2_copyFrom_0 rfl 0 rfl ?_
  refine wk_aload_n (pc := 1) dX2_copyFrom_1 rfl 1 rfl ?_
  refine wk_getI (C := RX2) (T := TX2) (N := 5) (pc := 2) dX2_copyFrom_2 (sX2_0 hG hp1).2 (sX2_0 hG hp1).1 rfl qU_X2 0 (by decide) qF_X2_9 rfl ?_
  refine wk_putI (C := RX2) (T := TX2) (N := 5) (ty := .int) (pc := 5) dX2_copyFrom_5 (sX2_0 hG hk).2 (sX2_0 hG hk).1 rfl qU_X2 tyX2 tyX2_ok nmX2 0 (by decide) qF_X2_9 rfl rfl rfl rfl rfl ?_
  obtain ⟨s5, hs5, hf⟩ := xlet_some hf
  refine wk_sig hs5 ?_
  refine wk_aload_n (pc := 8) dX2_copyFrom_8 rfl 0 rfl ?_
  refine wk_aload_n (pc := 9) dX2_copyFrom_9 rfl 1 rfl ?_
  refine wk_getI (C := RX2) (T := TX2) (N := 5) (pc := 10) dX2_copyFrom_10 (sX2_0 hG hp1).2 (sX2_0 hG hp1).1 rfl qU_X2 1 (by decide) qF_X2_15 rfl ?_
  refine wk_putI (C := RX2) (T := TX2) (N := 5) (ty := .int) (pc := 13) dX2_copyFrom_13 (sX2_0 hG hk).2 (sX2_0 hG hk).1 rfl qU_X2 tyX2 tyX2_ok nmX2 1 (by decide) qF_X2_15 rfl rfl rfl rfl rfl ?_
  obtain ⟨s13, hs13, hf⟩ := xlet_some hf
  refine wk_sig hs13 ?_
  refine wk_aload_n (pc := 16) dX2_copyFrom_16 rfl 0 rfl ?_
  refine wk_aload_n (pc := 17) dX2_copyFrom_17 rfl 1 rfl ?_
  refine wk_getI (C := RX2) (T := TX2) (N := 5) (pc := 18) dX2_copyFrom_18 (sX2_0 hG hp1).2 (sX2_0 hG hp1).1 rfl qU_X2 2 (by decide) qF_X2_18 rfl ?_
  refine wk_putI (C := RX2) (T := TX2) (N := 5) (ty := .int) (pc := 21) dX2_copyFrom_21 (sX2_0 hG hk).2 (sX2_0 hG hk).1 rfl qU_X2 tyX2 tyX2_ok nmX2 2 (by decide) qF_X2_18 rfl rfl rfl rfl rfl ?_
  obtain ⟨s21, hs21, hf⟩ := xlet_some hf
  refine wk_sig hs21 ?_
  refine wk_aload_n (pc := 24) dX2_copyFrom_24 rfl 1 rfl ?_
  refine wk_getR (C := RX2) (T := TX2) (N := 5) (pc := 25) dX2_copyFrom_25 (sX2_0 hG hp1).2 (sX2_0 hG hp1).1 rfl qU_X2 3 (by decide) qF_X2_21 rfl ?_
  refine wk_iconst (pc := 28) (v := (0 : Int32)) dX2_copyFrom_28 (by decide) ?_
  refine wk_aload_n (pc := 29) dX2_copyFrom_29 rfl 0 rfl ?_
  refine wk_getR (C := RX2) (T := TX2) (N := 5) (pc := 30) dX2_copyFrom_30 (sX2_0 hG hk).2 (sX2_0 hG hk).1 rfl qU_X2 3 (by decide) qF_X2_21 rfl ?_
  refine wk_iconst (pc := 33) (v := (0 : Int32)) dX2_copyFrom_33 (by decide) ?_
  refine wk_bipush (pc := 34) (v := (50 : Int32)) dX2_copyFrom_34 (by decide) ?_
  refine wk_copyi (pc := 36) (z0 := 50) (z1 := 50) dX2_copyFrom_36 qM_X2_28 qN_copy qS_copy qJ_J10 (sX2_1 hG hp1).2 (sX2_1 hG hp1).1 (sX2_1 hG hk).2 (sX2_1 hG hk).1 (by decide) (Nat.le_of_ble_eq_true rfl) (by decide) ?_
  obtain ⟨s36, hs36, hf⟩ := xlet_some hf
  refine wk_sig hs36 ?_
  refine wk_aload_n (pc := 39) dX2_copyFrom_39 rfl 1 rfl ?_
  refine wk_getR (C := RX2) (T := TX2) (N := 5) (pc := 40) dX2_copyFrom_40 (sX2_0 hG hp1).2 (sX2_0 hG hp1).1 rfl qU_X2 4 (by decide) qF_X2_25 rfl ?_
  refine wk_iconst (pc := 43) (v := (0 : Int32)) dX2_copyFrom_43 (by decide) ?_
  refine wk_aload_n (pc := 44) dX2_copyFrom_44 rfl 0 rfl ?_
  refine wk_getR (C := RX2) (T := TX2) (N := 5) (pc := 45) dX2_copyFrom_45 (sX2_0 hG hk).2 (sX2_0 hG hk).1 rfl qU_X2 4 (by decide) qF_X2_25 rfl ?_
  refine wk_iconst (pc := 48) (v := (0 : Int32)) dX2_copyFrom_48 (by decide) ?_
  refine wk_bipush (pc := 49) (v := (20 : Int32)) dX2_copyFrom_49 (by decide) ?_
  refine wk_copyi (pc := 51) (z0 := 20) (z1 := 20) dX2_copyFrom_51 qM_X2_28 qN_copy qS_copy qJ_J10 (sX2_2 hG hp1).2 (sX2_2 hG hp1).1 (sX2_2 hG hk).2 (sX2_2 hG hk).1 (by decide) (Nat.le_of_ble_eq_true rfl) (by decide) ?_
  obtain ⟨s51, hs51, hf⟩ := xlet_some hf
  refine wk_sig hs51 ?_
  exact wk_vret (pc := 54) dX2_copyFrom_54 rfl (xU_of hf)
