theorem k_X7_best : cBV yX7_best cX7_best 8 (some .int) 2 := ⟨mw_5_139, mw_5_140, mw_1_8, mw_5_141, ⟨by decide, by decide, by decide⟩⟩
set_option maxHeartbeats 4000000 in
set_option maxRecDepth 100000 in
theorem c_X7_best (l : Launch) (z : Zt) (v : Nat → Nat → Int) (h0 o0 : Nat) (g0 : zG z h0 = (17, o0)) (p1 : Int32) (p2 : Int32) : Met l yX7_best (uw yX7_best cX7_best 8 (some .int)) (rmF 8 222) (PcW z [.ref h0, .int p1, .int p2] (fun H => WX z v H)) (QcI z (fun r H => WX z v H)) 0 0 (zA z) := by
  refine Met.ofW (cc := cX7_best) (maxL := 8) (ret := (some .int)) (by decide) rfl ?_
  intro p e s m args below meth c s₁ B hml hv
  obtain ⟨rfl, hW, hK, hSK⟩ := hv
  have hx := B.exec
  have hb := B.bytes
  have hr := B.returns
  have hts : ∀ w ∈ lw_ok, w.before ([.ref h0, .int p1, .int p2] : List Value).toArray s = true := fun w hw => atoms_spec (ws := uw yX7_best cX7_best 8 (some .int)) B.pre w (List.mem_cons_of_mem _ hw)
  have hown : s.vm.findClass RX7 = some m.cls := findClass_of_methodNamed B.named
  have hlk := B.notSynchronized
  have hC : CallFix p m c cX7_best 8 s ([.ref h0, .int p1, .int p2] : List Value).toArray lw_ok RX7 := ⟨hx, hb, hml, hown, hts⟩
  have hS : va_S (zA z) s.heap s.heap [] := va_S.rf
  have hl := lv_entry ([.ref h0, .int p1, .int p2]) (n := 8) (Nat.le_of_ble_eq_true rfl)
  rw [lg_entry_eq]
  generalize (lg_sl ([.ref h0, .int p1, .int p2]) ++ List.replicate (8 - (lg_sl ([.ref h0, .int p1, .int p2])).length) Slot.unset).toArray = ls at hl ⊢
  have hl : lv_has ls 8 [(0, .ref h0), (1, .int p1), (2, .int p2)] := hl
  show W p l e (rmF 8 222) s m ([.ref h0, .int p1, .int p2] : List Value).toArray below meth c s.heap [] 0 0 (MQ below (QcI z (fun r H => WX z v H)) ([.ref h0, .int p1, .int p2] : List Value).toArray s 0 0 (zA z)) (F0 m 0 ls [])
  obtain ⟨gh, hwf, hvis, hT⟩ := hW
  have mx_p1 := i_mx p1
  have mx_p2 := i_mx p2
  refine lv_iload_n hx hb dX7_best_0 rfl (lv_at hl 1 rfl) ?_
  refine r_i2l hx hb dX7_best_1 (fun x1 e1 => ?_)
  refine r_lconst0 hx hb dX7_best_2 (fun x2 e2 => ?_)
  refine r_ldc2 (4) rfl hx hb hts hown mw_5_112 dX7_best_3 (fun x3 e3 => ?_)
  refine cl_Si (rest := []) hC hK hSK (c_X7_in l z gh x1 x2 x3) k_X7_in mw_4_154 ⟨rfl, rfl, Nat.le_of_ble_eq_true rfl, Nat.le_of_ble_eq_true rfl⟩ hT rfl hl.1 rfl (Nat.le_of_ble_eq_true rfl) dX7_best_6 ⟨Nat.zero_le _, Nat.zero_le _⟩ hS (fun _ h => h) (fun _ _ h => h) (fun r6 H locs hpo hS => ?_)
  obtain ⟨hT, u6_0, u6_1⟩ := hpo
  refine r_if_eq (tgt := 31) hx hb dX7_best_9 (by decide) (fun c9 => ?_) (fun c9 => ?_)
  · refine r_iconst hx hb dX7_best_31 (by decide) (by decide) (fun x31 e31 => ?_)
    exact rt_i hx hb hr hlk hS ⟨_, hwf, hvis, hT⟩ dX7_best_32
  · refine lv_iload_n hx hb dX7_best_12 rfl (lv_at hl 2 rfl) ?_
    have J33 : ∀ (ls : Array Slot) (H : Heap) (locs : List Loc) (gh : Gh), (p2.toInt = 0 ∨ (10 ≤ p2.toInt ∧ p2.toInt ≤ 13)) → wf z gh → vis z gh v → TY z (zA z) gh H → va_S (zA z) s.heap H locs → lv_has ls 8 [(0, .ref h0), (1, .int p1), (2, .int p2)] → W p l e (rmF 8 222) s m ([.ref h0, .int p1, .int p2] : List Value).toArray below meth c H locs 0 0 (MQ below (QcI z (fun r H => WX z v H)) ([.ref h0, .int p1, .int p2] : List Value).toArray s 0 0 (zA z)) (F0 m 33 ls []) := by
      intro ls H locs gh ex33_0 hwf hvis hT hS hl
      refine r_iconst hx hb dX7_best_33 (by decide) (by decide) (fun x33 e33 => ?_)
      refine lv_istore_n (lv' := [(3, .int x33), (0, .ref h0), (1, .int p1), (2, .int p2)]) hx hb dX7_best_34 rfl hl (by decide) rfl (fun ls hl => ?_)
      refine r_bipush hx hb dX7_best_35 rfl (fun x35 e35 => ?_)
      refine lv_istore (lv' := [(4, .int x35), (3, .int x33), (0, .ref h0), (1, .int p1), (2, .int p2)]) hx hb dX7_best_37 hl (by decide) rfl (fun ls hl => ?_)
      refine r_iconst hx hb dX7_best_39 (by decide) (by decide) (fun x39 e39 => ?_)
      refine lv_istore (lv' := [(5, .int x39), (4, .int x35), (3, .int x33), (0, .ref h0), (1, .int p1), (2, .int p2)]) hx hb dX7_best_40 hl (by decide) rfl (fun ls hl => ?_)
      have J42 : ∀ (n42 : Nat) (ls : Array Slot) (H : Heap) (locs : List Loc) (y42_3 : Int32) (y42_4 : Int32) (y42_5 : Int32) (gh : Gh), (-4 ≤ y42_4.toInt ∧ y42_4.toInt ≤ 99999) → (0 ≤ y42_5.toInt ∧ y42_5.toInt ≤ 100000) → (100000 - y42_5.toInt) < (n42 : Int) → wf z gh → vis z gh v → TY z (zA z) gh H → va_S (zA z) s.heap H locs → lv_has ls 8 [(0, .ref h0), (1, .int p1), (2, .int p2), (3, .int y42_3), (4, .int y42_4), (5, .int y42_5)] → W p l e (rmF 8 222) s m ([.ref h0, .int p1, .int p2] : List Value).toArray below meth c H locs 0 0 (MQ below (QcI z (fun r H => WX z v H)) ([.ref h0, .int p1, .int p2] : List Value).toArray s 0 0 (zA z)) (F0 m 42 ls []) := by
        intro n42
        induction n42 with
        | zero => intro ls H locs y42_3 y42_4 y42_5 gh j42_y42_4 j42_y42_5 mm42 hwf hvis hT hS hl; exfalso; omega
        | succ n42 ih42 =>
          intro ls H locs y42_3 y42_4 y42_5 gh j42_y42_4 j42_y42_5 mm42 hwf hvis hT hS hl
          refine lv_iload hx hb dX7_best_42 (lv_at hl 5 rfl) ?_
          refine r_iconst hx hb dX7_best_44 (by decide) (by decide) (fun x44 e44 => ?_)
          refine lv_iload_n hx hb dX7_best_45 rfl (lv_at hl 1 rfl) ?_
          refine cl_Si (rest := [.int y42_5]) hC hK hSK (c_X7_power l z gh x44 p1 (by omega) (by omega)) k_X7_power mw_5_142 ⟨rfl, rfl, Nat.le_of_ble_eq_true rfl, Nat.le_of_ble_eq_true rfl⟩ hT rfl hl.1 rfl (Nat.le_of_ble_eq_true rfl) dX7_best_46 ⟨Nat.zero_le _, Nat.zero_le _⟩ hS (fun _ h => h) (fun _ _ h => h) (fun r46 H locs hpo hS => ?_)
          obtain ⟨hT, u46_0, u46_1⟩ := hpo
          refine r_icmp_ge (tgt := 162) hx hb dX7_best_49 (by decide) (fun c49 => ?_) (fun c49 => ?_)
          · refine lv_iload hx hb dX7_best_162 (lv_at hl 4 rfl) ?_
            refine r_bipush hx hb dX7_best_164 rfl (fun x164 e164 => ?_)
            have J173 : ∀ (ls : Array Slot) (H : Heap) (locs : List Loc) (gh : Gh), wf z gh → vis z gh v → TY z (zA z) gh H → va_S (zA z) s.heap H locs → lv_has ls 8 [(0, .ref h0), (1, .int p1), (2, .int p2), (3, .int y42_3), (4, .int y42_4), (5, .int y42_5)] → W p l e (rmF 8 222) s m ([.ref h0, .int p1, .int p2] : List Value).toArray below meth c H locs 0 0 (MQ below (QcI z (fun r H => WX z v H)) ([.ref h0, .int p1, .int p2] : List Value).toArray s 0 0 (zA z)) (F0 m 173 ls []) := by
              intro ls H locs gh hwf hvis hT hS hl
              refine lv_iload hx hb dX7_best_173 (lv_at hl 4 rfl) ?_
              refine r_bipush hx hb dX7_best_175 rfl (fun x175 e175 => ?_)
              refine r_icmp_ne (tgt := 185) hx hb dX7_best_177 (by decide) (fun c177 => ?_) (fun c177 => ?_)
              · refine lv_iload_n hx hb dX7_best_185 rfl (lv_at hl 3 rfl) ?_
                exact rt_i hx hb hr hlk hS ⟨_, hwf, hvis, hT⟩ dX7_best_186
              · refine r_bipush hx hb dX7_best_180 rfl (fun x180 e180 => ?_)
                refine lv_goto (tgt := 186) hx hb dX7_best_182 (by decide) ?_
                exact rt_i hx hb hr hlk hS ⟨_, hwf, hvis, hT⟩ dX7_best_186
            refine r_icmp_eq (tgt := 173) hx hb dX7_best_166 (by decide) (fun c166 => ?_) (fun c166 => ?_)
            · exact J173 ls _ _ _ hwf hvis hT hS (lv_sub hl [0, 1, 2, 3, 4, 5] rfl)
            · refine lv_iload_n hx hb dX7_best_169 rfl (lv_at hl 2 rfl) ?_
              refine r_if_ne (tgt := 187) hx hb dX7_best_170 (by decide) (fun c170 => ?_) (fun c170 => ?_)
              · refine lv_iload_n hx hb dX7_best_187 rfl (lv_at hl 2 rfl) ?_
                refine r_bipush hx hb dX7_best_188 rfl (fun x188 e188 => ?_)
                refine r_isub hx hb dX7_best_190 (by omega) (by omega) (fun x190 e190 => ?_)
                refine lv_iload_n hx hb dX7_best_191 rfl (lv_at hl 1 rfl) ?_
                refine r_icmp_ge (tgt := 208) hx hb dX7_best_192 (by decide) (fun c192 => ?_) (fun c192 => ?_)
                · refine r_bipush hx hb dX7_best_208 rfl (fun x208 e208 => ?_)
                  exact rt_i hx hb hr hlk hS ⟨_, hwf, hvis, hT⟩ dX7_best_210
                · refine lv_iload hx hb dX7_best_195 (lv_at hl 4 rfl) ?_
                  refine lv_iload_n hx hb dX7_best_197 rfl (lv_at hl 1 rfl) ?_
                  refine lv_iload_n hx hb dX7_best_198 rfl (lv_at hl 2 rfl) ?_
                  refine r_bipush hx hb dX7_best_199 rfl (fun x199 e199 => ?_)
                  refine r_isub hx hb dX7_best_201 (by omega) (by omega) (fun x201 e201 => ?_)
                  refine cl_Si (rest := []) hC hK hSK (c_X7_figureIn l z gh y42_4 p1 x201 (by omega) (by omega) (by omega)) k_X7_figureIn mw_5_145 ⟨rfl, rfl, Nat.le_of_ble_eq_true rfl, Nat.le_of_ble_eq_true rfl⟩ hT rfl hl.1 rfl (Nat.le_of_ble_eq_true rfl) dX7_best_202 ⟨Nat.zero_le _, Nat.zero_le _⟩ hS (fun _ h => h) (fun _ _ h => h) (fun r202 H locs hpo hS => ?_)
                  have hT := hpo
                  refine lv_goto (tgt := 210) hx hb dX7_best_205 (by decide) ?_
                  exact rt_i hx hb hr hlk hS ⟨_, hwf, hvis, hT⟩ dX7_best_210
              · exact J173 ls _ _ _ hwf hvis hT hS (lv_sub hl [0, 1, 2, 3, 4, 5] rfl)
          · refine r_iconst hx hb dX7_best_52 (by decide) (by decide) (fun x52 e52 => ?_)
            refine lv_istore (lv' := [(6, .int x52), (0, .ref h0), (1, .int p1), (2, .int p2), (3, .int y42_3), (4, .int y42_4), (5, .int y42_5)]) hx hb dX7_best_53 hl (by decide) rfl (fun ls hl => ?_)
            refine lv_aload_n hx hb dX7_best_55 rfl (lv_at hl 1 rfl) ?_
            refine cl_Vv (rest := []) hC hK hSK (c_X7_starts l z gh h0 (o0) g0 hwf) k_X7_starts mw_4_229 ⟨rfl, rfl, Nat.le_of_ble_eq_true rfl, Nat.le_of_ble_eq_true rfl⟩ (rv_Model hK hT g0) hT rfl hl.1 rfl (Nat.le_of_ble_eq_true rfl) dX7_best_56 ⟨Nat.zero_le _, Nat.zero_le _⟩ hS (fun _ h => h) (fun _ _ h => h) (fun H locs hpo hS => ?_)
            obtain ⟨gh56, hz56, hst56, hnow, hT⟩ := hpo
            have hwf := wf_ne hz56 hwf
            have hvis := vis_ne hz56 hvis
            have r41_56 := hz56 h0 41 (by decide) (by decide)
            refine r_iconst hx hb dX7_best_59 (by decide) (by decide) (fun x59 e59 => ?_)
            refine lv_istore (lv' := [(7, .int x59), (6, .int x52), (0, .ref h0), (1, .int p1), (2, .int p2), (3, .int y42_3), (4, .int y42_4), (5, .int y42_5)]) hx hb dX7_best_60 hl (by decide) rfl (fun ls hl => ?_)
            have J62 : ∀ (n62 : Nat) (ls : Array Slot) (H : Heap) (locs : List Loc) (y62_6 : Int32) (y62_7 : Int32) (gh : Gh), (0 ≤ y62_7.toInt ∧ y62_7.toInt ≤ 4) → (100000 - y42_5.toInt) < ((n42 + 1 : Nat) : Int) → (4 - y62_7.toInt) < (n62 : Int) → wf z gh → vis z gh v → nowOK (gh.1 h0) → TY z (zA z) gh H → va_S (zA z) s.heap H locs → lv_has ls 8 [(0, .ref h0), (1, .int p1), (2, .int p2), (3, .int y42_3), (4, .int y42_4), (5, .int y42_5), (6, .int y62_6), (7, .int y62_7)] → W p l e (rmF 8 222) s m ([.ref h0, .int p1, .int p2] : List Value).toArray below meth c H locs 0 0 (MQ below (QcI z (fun r H => WX z v H)) ([.ref h0, .int p1, .int p2] : List Value).toArray s 0 0 (zA z)) (F0 m 62 ls []) := by
              intro n62
              induction n62 with
              | zero => intro ls H locs y62_6 y62_7 gh j62_y62_7 mf62_42 mm62 hwf hvis hnow hT hS hl; exfalso; omega
              | succ n62 ih62 =>
                intro ls H locs y62_6 y62_7 gh j62_y62_7 mf62_42 mm62 hwf hvis hnow hT hS hl
                refine lv_iload hx hb dX7_best_62 (lv_at hl 7 rfl) ?_
                refine lv_iload_n hx hb dX7_best_64 rfl (lv_at hl 1 rfl) ?_
                have J102 : ∀ (ls : Array Slot) (H : Heap) (locs : List Loc) (gh : Gh), (100000 - y42_5.toInt) < ((n42 + 1 : Nat) : Int) → wf z gh → vis z gh v → nowOK (gh.1 h0) → TY z (zA z) gh H → va_S (zA z) s.heap H locs → lv_has ls 8 [(0, .ref h0), (1, .int p1), (2, .int p2), (3, .int y42_3), (4, .int y42_4), (5, .int y42_5), (6, .int y62_6), (7, .int y62_7)] → W p l e (rmF 8 222) s m ([.ref h0, .int p1, .int p2] : List Value).toArray below meth c H locs 0 0 (MQ below (QcI z (fun r H => WX z v H)) ([.ref h0, .int p1, .int p2] : List Value).toArray s 0 0 (zA z)) (F0 m 102 ls []) := by
                  intro ls H locs gh mf102_42 hwf hvis hnow hT hS hl
                  refine lv_iload hx hb dX7_best_102 (lv_at hl 6 rfl) ?_
                  have J123 : ∀ (ls : Array Slot) (H : Heap) (locs : List Loc) (t123_0 : Int32) (gh : Gh), (0 ≤ t123_0.toInt ∧ t123_0.toInt ≤ 1) → (100000 - y42_5.toInt) < ((n42 + 1 : Nat) : Int) → wf z gh → vis z gh v → nowOK (gh.1 h0) → TY z (zA z) gh H → va_S (zA z) s.heap H locs → lv_has ls 8 [(0, .ref h0), (1, .int p1), (2, .int p2), (3, .int y42_3), (4, .int y42_4), (5, .int y42_5), (6, .int y62_6), (7, .int y62_7)] → W p l e (rmF 8 222) s m ([.ref h0, .int p1, .int p2] : List Value).toArray below meth c H locs 0 0 (MQ below (QcI z (fun r H => WX z v H)) ([.ref h0, .int p1, .int p2] : List Value).toArray s 0 0 (zA z)) (F0 m 123 ls [.int t123_0]) := by
                    intro ls H locs t123_0 gh j123_t123_0 mf123_42 hwf hvis hnow hT hS hl
                    refine lv_istore (lv' := [(7, .int t123_0), (0, .ref h0), (1, .int p1), (2, .int p2), (3, .int y42_3), (4, .int y42_4), (5, .int y42_5), (6, .int y62_6)]) hx hb dX7_best_123 hl (by decide) rfl (fun ls hl => ?_)
                    refine lv_iload hx hb dX7_best_125 (lv_at hl 0 rfl) ?_
                    have J137 : ∀ (ls : Array Slot) (H : Heap) (locs : List Loc) (t137_0 : Int32) (gh : Gh), (-4 ≤ t137_0.toInt ∧ t137_0.toInt ≤ 99999) → (100000 - y42_5.toInt) < ((n42 + 1 : Nat) : Int) → wf z gh → vis z gh v → nowOK (gh.1 h0) → TY z (zA z) gh H → va_S (zA z) s.heap H locs → lv_has ls 8 [(0, .ref h0), (1, .int p1), (2, .int p2), (3, .int y42_3), (4, .int y42_4), (5, .int y42_5), (6, .int y62_6), (7, .int t123_0)] → W p l e (rmF 8 222) s m ([.ref h0, .int p1, .int p2] : List Value).toArray below meth c H locs 0 0 (MQ below (QcI z (fun r H => WX z v H)) ([.ref h0, .int p1, .int p2] : List Value).toArray s 0 0 (zA z)) (F0 m 137 ls [.int t137_0]) := by
                      intro ls H locs t137_0 gh j137_t137_0 mf137_42 hwf hvis hnow hT hS hl
                      refine lv_istore (lv' := [(4, .int t137_0), (0, .ref h0), (1, .int p1), (2, .int p2), (3, .int y42_3), (5, .int y42_5), (6, .int y62_6), (7, .int t123_0)]) hx hb dX7_best_137 hl (by decide) rfl (fun ls hl => ?_)
                      refine lv_iload hx hb dX7_best_139 (lv_at hl 7 rfl) ?_
                      have J155 : ∀ (ls : Array Slot) (H : Heap) (locs : List Loc) (t155_0 : Int32) (gh : Gh), (100000 - y42_5.toInt) < ((n42 + 1 : Nat) : Int) → wf z gh → vis z gh v → nowOK (gh.1 h0) → TY z (zA z) gh H → va_S (zA z) s.heap H locs → lv_has ls 8 [(0, .ref h0), (1, .int p1), (2, .int p2), (3, .int y42_3), (4, .int t137_0), (5, .int y42_5), (6, .int y62_6), (7, .int t123_0)] → W p l e (rmF 8 222) s m ([.ref h0, .int p1, .int p2] : List Value).toArray below meth c H locs 0 0 (MQ below (QcI z (fun r H => WX z v H)) ([.ref h0, .int p1, .int p2] : List Value).toArray s 0 0 (zA z)) (F0 m 155 ls [.int t155_0]) := by
                        intro ls H locs t155_0 gh mf155_42 hwf hvis hnow hT hS hl
                        refine lv_istore_n (lv' := [(3, .int t155_0), (0, .ref h0), (1, .int p1), (2, .int p2), (4, .int t137_0), (5, .int y42_5), (6, .int y62_6), (7, .int t123_0)]) hx hb dX7_best_155 rfl hl (by decide) rfl (fun ls hl => ?_)
                        refine r_iinc (lv' := fun v__ => [(5, .int v__), (3, .int t155_0), (0, .ref h0), (1, .int p1), (2, .int p2), (4, .int t137_0), (6, .int y62_6), (7, .int t123_0)]) hx hb dX7_best_156 hl (k := 5) rfl (by decide) (fun _ => rfl) ⟨by decide, by decide⟩ (by omega) (by omega) (fun x156 ls e156 hl => ?_)
                        refine lv_goto (tgt := 42) hx hb dX7_best_159 (by decide) ?_
                        exact ih42 ls _ _ t155_0 t137_0 x156 _ (by omega) (by omega) (by omega) hwf hvis hT hS (lv_sub hl [2, 3, 4, 1, 5, 0] rfl)
                      refine r_if_eq (tgt := 154) hx hb dX7_best_141 (by decide) (fun c141 => ?_) (fun c141 => ?_)
                      · refine lv_iload_n hx hb dX7_best_154 rfl (lv_at hl 4 rfl) ?_
                        exact J155 ls _ _ y42_3 _ (by omega) hwf hvis hnow hT hS (lv_sub hl [1, 2, 3, 4, 0, 5, 6, 7] rfl)
                      · refine lv_aload_n hx hb dX7_best_144 rfl (lv_at hl 1 rfl) ?_
                        refine cl_Vi (rest := []) hC hK hSK (c_X7_round l z gh h0 (o0) g0) k_X7_round mw_5_0 ⟨rfl, rfl, Nat.le_of_ble_eq_true rfl, Nat.le_of_ble_eq_true rfl⟩ (rv_Model hK hT g0) hT rfl hl.1 rfl (Nat.le_of_ble_eq_true rfl) dX7_best_145 ⟨Nat.zero_le _, Nat.zero_le _⟩ hS (fun _ h => h) (fun _ _ h => h) (fun r145 H locs hpo hS => ?_)
                        have hT := hpo
                        refine cl_Si (rest := []) hC hK hSK (c_X7_bitsOf l z gh r145) k_X7_bitsOf mw_4_237 ⟨rfl, rfl, Nat.le_of_ble_eq_true rfl, Nat.le_of_ble_eq_true rfl⟩ hT rfl hl.1 rfl (Nat.le_of_ble_eq_true rfl) dX7_best_148 ⟨Nat.zero_le _, Nat.zero_le _⟩ hS (fun _ h => h) (fun _ _ h => h) (fun r148 H locs hpo hS => ?_)
                        have hT := hpo
                        refine lv_goto (tgt := 155) hx hb dX7_best_151 (by decide) ?_
                        exact J155 ls _ _ r148 _ (by omega) hwf hvis hnow hT hS (lv_sub hl [1, 2, 3, 4, 0, 5, 6, 7] rfl)
                    refine r_if_eq (tgt := 135) hx hb dX7_best_127 (by decide) (fun c127 => ?_) (fun c127 => ?_)
                    · refine lv_iload hx hb dX7_best_135 (lv_at hl 5 rfl) ?_
                      exact J137 ls _ _ y42_4 _ (by omega) (by omega) hwf hvis hnow hT hS (lv_sub hl [1, 2, 3, 4, 5, 6, 7, 0] rfl)
                    · refine lv_iload hx hb dX7_best_130 (lv_at hl 6 rfl) ?_
                      refine lv_goto (tgt := 137) hx hb dX7_best_132 (by decide) ?_
                      exact J137 ls _ _ y42_5 _ (by omega) (by omega) hwf hvis hnow hT hS (lv_sub hl [1, 2, 3, 4, 5, 6, 7, 0] rfl)
                  have J122 : ∀ (ls : Array Slot) (H : Heap) (locs : List Loc) (gh : Gh), (100000 - y42_5.toInt) < ((n42 + 1 : Nat) : Int) → wf z gh → vis z gh v → nowOK (gh.1 h0) → TY z (zA z) gh H → va_S (zA z) s.heap H locs → lv_has ls 8 [(0, .ref h0), (1, .int p1), (2, .int p2), (3, .int y42_3), (4, .int y42_4), (5, .int y42_5), (6, .int y62_6), (7, .int y62_7)] → W p l e (rmF 8 222) s m ([.ref h0, .int p1, .int p2] : List Value).toArray below meth c H locs 0 0 (MQ below (QcI z (fun r H => WX z v H)) ([.ref h0, .int p1, .int p2] : List Value).toArray s 0 0 (zA z)) (F0 m 122 ls []) := by
                    intro ls H locs gh mf122_42 hwf hvis hnow hT hS hl
                    refine r_iconst hx hb dX7_best_122 (by decide) (by decide) (fun x122 e122 => ?_)
                    exact J123 ls _ _ x122 _ (by omega) (by omega) hwf hvis hnow hT hS (lv_sub hl [0, 1, 2, 3, 4, 5, 6, 7] rfl)
                  refine r_if_ne (tgt := 122) hx hb dX7_best_104 (by decide) (fun c104 => ?_) (fun c104 => ?_)
                  · exact J122 ls _ _ _ (by omega) hwf hvis hnow hT hS (lv_sub hl [0, 1, 2, 3, 4, 5, 6, 7] rfl)
                  · refine lv_aload_n hx hb dX7_best_107 rfl (lv_at hl 0 rfl) ?_
                    refine cl_Vi (rest := []) hC hK hSK (c_X7_round l z gh h0 (o0) g0) k_X7_round mw_5_0 ⟨rfl, rfl, Nat.le_of_ble_eq_true rfl, Nat.le_of_ble_eq_true rfl⟩ (rv_Model hK hT g0) hT rfl hl.1 rfl (Nat.le_of_ble_eq_true rfl) dX7_best_108 ⟨Nat.zero_le _, Nat.zero_le _⟩ hS (fun _ h => h) (fun _ _ h => h) (fun r108 H locs hpo hS => ?_)
                    have hT := hpo
                    refine cl_Si (rest := []) hC hK hSK (c_X7_bitsOf l z gh r108) k_X7_bitsOf mw_4_237 ⟨rfl, rfl, Nat.le_of_ble_eq_true rfl, Nat.le_of_ble_eq_true rfl⟩ hT rfl hl.1 rfl (Nat.le_of_ble_eq_true rfl) dX7_best_111 ⟨Nat.zero_le _, Nat.zero_le _⟩ hS (fun _ h => h) (fun _ _ h => h) (fun r111 H locs hpo hS => ?_)
                    have hT := hpo
                    refine lv_iload_n hx hb dX7_best_114 rfl (lv_at hl 3 rfl) ?_
                    refine r_icmp_le (tgt := 122) hx hb dX7_best_115 (by decide) (fun c115 => ?_) (fun c115 => ?_)
                    · exact J122 ls _ _ _ (by omega) hwf hvis hnow hT hS (lv_sub hl [0, 1, 2, 3, 4, 5, 6, 7] rfl)
                    · refine r_iconst hx hb dX7_best_118 (by decide) (by decide) (fun x118 e118 => ?_)
                      refine lv_goto (tgt := 123) hx hb dX7_best_119 (by decide) ?_
                      exact J123 ls _ _ x118 _ (by omega) (by omega) hwf hvis hnow hT hS (lv_sub hl [0, 1, 2, 3, 4, 5, 6, 7] rfl)
                refine r_icmp_ge (tgt := 102) hx hb dX7_best_65 (by decide) (fun c65 => ?_) (fun c65 => ?_)
                · exact J102 ls _ _ _ (by omega) hwf hvis hnow hT hS (lv_sub hl [0, 1, 2, 3, 4, 5, 6, 7] rfl)
                · refine lv_aload_n hx hb dX7_best_68 rfl (lv_at hl 0 rfl) ?_
                  refine gt_Model_men hx hb hts ic_Model hown hK hT g0 (hts _ mw_4_73) dX7_best_69 (fun x69 i69 e69 g69 => ?_)
                  refine r_if_le (tgt := 102) hx hb dX7_best_72 (by decide) (fun c72 => ?_) (fun c72 => ?_)
                  · exact J102 ls _ _ _ (by omega) hwf hvis hnow hT hS (lv_sub hl [0, 1, 2, 3, 4, 5, 6, 7] rfl)
                  · refine lv_aload_n hx hb dX7_best_75 rfl (lv_at hl 0 rfl) ?_
                    refine lv_iload hx hb dX7_best_76 (lv_at hl 5 rfl) ?_
                    refine lv_iload_n hx hb dX7_best_78 rfl (lv_at hl 1 rfl) ?_
                    refine lv_iload hx hb dX7_best_79 (lv_at hl 7 rfl) ?_
                    refine cl_Si (rest := [.ref h0]) hC hK hSK (c_X7_figureIn l z gh y42_5 p1 y62_7 (by omega) (by omega) (by omega)) k_X7_figureIn mw_5_145 ⟨rfl, rfl, Nat.le_of_ble_eq_true rfl, Nat.le_of_ble_eq_true rfl⟩ hT rfl hl.1 rfl (Nat.le_of_ble_eq_true rfl) dX7_best_81 ⟨Nat.zero_le _, Nat.zero_le _⟩ hS (fun _ h => h) (fun _ _ h => h) (fun r81 H locs hpo hS => ?_)
                    have hT := hpo
                    refine cl_Vv (rest := []) hC hK hSK (c_X7_danceOn l z gh h0 (o0) g0 r81 hwf.2.2 hnow) k_X7_danceOn mw_5_88 ⟨rfl, rfl, Nat.le_of_ble_eq_true rfl, Nat.le_of_ble_eq_true rfl⟩ (rv_Model hK hT g0) hT rfl hl.1 rfl (Nat.le_of_ble_eq_true rfl) dX7_best_84 ⟨Nat.zero_le _, Nat.zero_le _⟩ hS (fun _ h => h) (fun _ _ h => h) (fun H locs hpo hS => ?_)
                    obtain ⟨gh84, hz84, hT⟩ := hpo
                    have hst84 := hz84.2
                    have hz84 := eqv_eq hz84.1
                    have hwf := wf_of hz84 hwf
                    have hvis := vis_of hz84 hvis
                    have hnow := nowOK_of hz84 hnow
                    have r41_84 := hz84 h0 41 rfl
                    refine lv_iload hx hb dX7_best_87 (lv_at hl 6 rfl) ?_
                    refine lv_aload_n hx hb dX7_best_89 rfl (lv_at hl 0 rfl) ?_
                    refine cl_Vi (rest := [.int y62_6]) hC hK hSK (c_X7_meetings l z gh84 h0 (o0) g0) k_X7_meetings mw_5_113 ⟨rfl, rfl, Nat.le_of_ble_eq_true rfl, Nat.le_of_ble_eq_true rfl⟩ (rv_Model hK hT g0) hT rfl hl.1 rfl (Nat.le_of_ble_eq_true rfl) dX7_best_90 ⟨Nat.zero_le _, Nat.zero_le _⟩ hS (fun _ h => h) (fun _ _ h => h) (fun r90 H locs hpo hS => ?_)
                    have hT := hpo
                    refine w_iadd hx hb dX7_best_93 (fun x93 => ?_)
                    refine lv_istore (lv' := [(6, .int x93), (0, .ref h0), (1, .int p1), (2, .int p2), (3, .int y42_3), (4, .int y42_4), (5, .int y42_5), (7, .int y62_7)]) hx hb dX7_best_94 hl (by decide) rfl (fun ls hl => ?_)
                    refine r_iinc (lv' := fun v__ => [(7, .int v__), (6, .int x93), (0, .ref h0), (1, .int p1), (2, .int p2), (3, .int y42_3), (4, .int y42_4), (5, .int y42_5)]) hx hb dX7_best_96 hl (k := 7) rfl (by decide) (fun _ => rfl) ⟨by decide, by decide⟩ (by omega) (by omega) (fun x96 ls e96 hl => ?_)
                    refine lv_goto (tgt := 62) hx hb dX7_best_99 (by decide) ?_
                    exact ih62 ls _ _ x93 x96 _ (by omega) (by omega) (by omega) hwf hvis hnow hT hS (lv_sub hl [2, 3, 4, 5, 6, 7, 1, 0] rfl)
            exact J62 (((4 - x59.toInt)).toNat + 1) ls _ _ x52 x59 _ (by omega) (by omega) (by omega) hwf hvis hnow hT hS (lv_sub hl [2, 3, 4, 5, 6, 7, 1, 0] rfl)
      exact J42 (((100000 - x39.toInt)).toNat + 1) ls _ _ x33 x35 x39 _ (by omega) (by omega) (by omega) hwf hvis hT hS (lv_sub hl [3, 4, 5, 2, 1, 0] rfl)
    refine r_if_eq (tgt := 33) hx hb dX7_best_13 (by decide) (fun c13 => ?_) (fun c13 => ?_)
    · exact J33 ls _ _ _ (by omega) hwf hvis hT hS (lv_sub hl [0, 1, 2] rfl)
    · refine lv_iload_n hx hb dX7_best_16 rfl (lv_at hl 2 rfl) ?_
      refine r_bipush hx hb dX7_best_17 rfl (fun x17 e17 => ?_)
      refine s_isub hx hb dX7_best_19 (fun x19 e19 g19 => ?_)
      refine r_i2l hx hb dX7_best_20 (fun x20 e20 => ?_)
      refine r_lconst0 hx hb dX7_best_21 (fun x21 e21 => ?_)
      refine r_ldc2 (3) rfl hx hb hts hown mw_5_59 dX7_best_22 (fun x22 e22 => ?_)
      refine cl_Si (rest := []) hC hK hSK (c_X7_in l z gh x20 x21 x22) k_X7_in mw_4_154 ⟨rfl, rfl, Nat.le_of_ble_eq_true rfl, Nat.le_of_ble_eq_true rfl⟩ hT rfl hl.1 rfl (Nat.le_of_ble_eq_true rfl) dX7_best_25 ⟨Nat.zero_le _, Nat.zero_le _⟩ hS (fun _ h => h) (fun _ _ h => h) (fun r25 H locs hpo hS => ?_)
      obtain ⟨hT, u25_0, u25_1⟩ := hpo
      refine r_if_ne (tgt := 33) hx hb dX7_best_28 (by decide) (fun c28 => ?_) (fun c28 => ?_)
      · exact J33 ls _ _ _ (by omega) hwf hvis hT hS (lv_sub hl [0, 1, 2] rfl)
      · refine r_iconst hx hb dX7_best_31 (by decide) (by decide) (fun x31 e31 => ?_)
        exact rt_i hx hb hr hlk hS ⟨_, hwf, hvis, hT⟩ dX7_best_32
theorem k_X7_orders : cBV yX7_orders cX7_orders 9 (some .int) 1 := ⟨mw_5_149, mw_5_150, mw_1_8, mw_5_151, ⟨by decide, by decide, by decide⟩⟩
set_option maxHeartbeats 4000000 in
set_option maxRecDepth 100000 in
theorem c_X7_orders (l : Launch) (z : Zt) (v : Nat → Nat → Int) (h0 o0 : Nat) (g0 : zG z h0 = (17, o0)) (p1 : Int32) : Met l yX7_orders (uw yX7_orders cX7_orders 9 (some .int)) (rmF 8 222) (PcW z [.ref h0, .int p1] (fun H => WX z v H)) (QcI z (fun r H => WX z v H)) 0 0 (zA z) := by
  refine Met.ofW (cc := cX7_orders) (maxL := 9) (ret := (some .int)) (by decide) rfl ?_
  intro p e s m args below meth c s₁ B hml hv
  obtain ⟨rfl, hW, hK, hSK⟩ := hv
  have hx := B.exec
  have hb := B.bytes
  have hr := B.returns
  have hts : ∀ w ∈ lw_ok, w.before ([.ref h0, .int p1] : List Value).toArray s = true := fun w hw => atoms_spec (ws := uw yX7_orders cX7_orders 9 (some .int)) B.pre w (List.mem_cons_of_mem _ hw)
  have hown : s.vm.findClass RX7 = some m.cls := findClass_of_methodNamed B.named
  have hlk := B.notSynchronized
  have hC : CallFix p m c cX7_orders 9 s ([.ref h0, .int p1] : List Value).toArray lw_ok RX7 := ⟨hx, hb, hml, hown, hts⟩
  have hS : va_S (zA z) s.heap s.heap [] := va_S.rf
  have hl := lv_entry ([.ref h0, .int p1]) (n := 9) (Nat.le_of_ble_eq_true rfl)
  rw [lg_entry_eq]
  generalize (lg_sl ([.ref h0, .int p1]) ++ List.replicate (9 - (lg_sl ([.ref h0, .int p1])).length) Slot.unset).toArray = ls at hl ⊢
  have hl : lv_has ls 9 [(0, .ref h0), (1, .int p1)] := hl
  show W p l e (rmF 8 222) s m ([.ref h0, .int p1] : List Value).toArray below meth c s.heap [] 0 0 (MQ below (QcI z (fun r H => WX z v H)) ([.ref h0, .int p1] : List Value).toArray s 0 0 (zA z)) (F0 m 0 ls [])
  obtain ⟨gh, hwf, hvis, hT⟩ := hW
  have mx_p1 := i_mx p1
  refine lv_iload_n hx hb dX7_orders_0 rfl (lv_at hl 1 rfl) ?_
  refine cl_Si (rest := []) hC hK hSK (c_X7_isPart l z gh p1) k_X7_isPart mw_5_152 ⟨rfl, rfl, Nat.le_of_ble_eq_true rfl, Nat.le_of_ble_eq_true rfl⟩ hT rfl hl.1 rfl (Nat.le_of_ble_eq_true rfl) dX7_orders_1 ⟨Nat.zero_le _, Nat.zero_le _⟩ hS (fun _ h => h) (fun _ _ h => h) (fun r1 H locs hpo hS => ?_)
  obtain ⟨hT, u1_0, u1_1, u1_2⟩ := hpo
  have J24 : ∀ (ls : Array Slot) (H : Heap) (locs : List Loc) (gh : Gh), ((0 ≤ p1.toInt ∧ p1.toInt ≤ 1) ∨ (10 ≤ p1.toInt ∧ p1.toInt ≤ 14)) → wf z gh → vis z gh v → TY z (zA z) gh H → va_S (zA z) s.heap H locs → lv_has ls 9 [(0, .ref h0), (1, .int p1)] → W p l e (rmF 8 222) s m ([.ref h0, .int p1] : List Value).toArray below meth c H locs 0 0 (MQ below (QcI z (fun r H => WX z v H)) ([.ref h0, .int p1] : List Value).toArray s 0 0 (zA z)) (F0 m 24 ls []) := by
    intro ls H locs gh ex24_0 hwf hvis hT hS hl
    refine lv_aload_n hx hb dX7_orders_24 rfl (lv_at hl 0 rfl) ?_
    refine gt_Model_st hx hb hts ic_Model hown hK hT g0 (hts _ mw_4_70) dX7_orders_25 (fun q25 hq25 => ?_)
    refine r_bipush hx hb dX7_orders_28 rfl (fun x28 e28 => ?_)
    refine al_40 hx hb hK hT hq25 (by omega) (by omega) dX7_orders_30 (fun x30 i30 e30 => ?_)
    have n30 := ix_nat (i := x28) (by omega)
    have f30 := b59_r31 (p40_e e30 (by omega)) (by omega)
    refine lv_istore_n (lv' := [(2, .int x30), (0, .ref h0), (1, .int p1)]) hx hb dX7_orders_31 rfl hl (by decide) rfl (fun ls hl => ?_)
    refine lv_iload_n hx hb dX7_orders_32 rfl (lv_at hl 0 rfl) ?_
    refine r_iconst hx hb dX7_orders_33 (by decide) (by decide) (fun x33 e33 => ?_)
    refine r_icmp_le (tgt := 40) hx hb dX7_orders_34 (by decide) (fun c34 => ?_) (fun c34 => ?_)
    · refine r_iconst hx hb dX7_orders_40 (by decide) (by decide) (fun x40 e40 => ?_)
      refine lv_istore_n (lv' := [(3, .int x40), (2, .int x30), (0, .ref h0), (1, .int p1)]) hx hb dX7_orders_41 rfl hl (by decide) rfl (fun ls hl => ?_)
      have hst5 : ∀ q, zG z q = (40, h0) → (gh.2 q 31).toInt ≤ 5 := fun q9 h9 => by rw [zu_at hwf.2.2 rfl h9 hq25, show (31 : Nat) = x28.toNatClampNeg by omega, ← i30]; omega
      refine r_bipush hx hb dX7_orders_42 rfl (fun x42 e42 => ?_)
      refine lv_istore (lv' := [(4, .int x42), (3, .int x40), (2, .int x30), (0, .ref h0), (1, .int p1)]) hx hb dX7_orders_44 hl (by decide) rfl (fun ls hl => ?_)
      refine r_bipush hx hb dX7_orders_46 rfl (fun x46 e46 => ?_)
      refine lv_istore (lv' := [(5, .int x46), (4, .int x42), (3, .int x40), (2, .int x30), (0, .ref h0), (1, .int p1)]) hx hb dX7_orders_48 hl (by decide) rfl (fun ls hl => ?_)
      refine r_iconst hx hb dX7_orders_50 (by decide) (by decide) (fun x50 e50 => ?_)
      refine lv_istore (lv' := [(6, .int x50), (5, .int x46), (4, .int x42), (3, .int x40), (2, .int x30), (0, .ref h0), (1, .int p1)]) hx hb dX7_orders_51 hl (by decide) rfl (fun ls hl => ?_)
      have J53 : ∀ (n53 : Nat) (ls : Array Slot) (H : Heap) (locs : List Loc) (y53_3 : Int32) (y53_4 : Int32) (y53_5 : Int32) (y53_6 : Int32) (gh : Gh), (-4 ≤ y53_5.toInt ∧ y53_5.toInt ≤ 99999) → (0 ≤ y53_6.toInt ∧ y53_6.toInt ≤ 100000) → (y53_5.toInt = -4 ∨ 0 ≤ y53_5.toInt) → (100000 - y53_6.toInt) < (n53 : Int) → wf z gh → vis z gh v → (∀ q, zG z q = (40, h0) → (gh.2 q 31).toInt ≤ 5) → TY z (zA z) gh H → va_S (zA z) s.heap H locs → lv_has ls 9 [(0, .ref h0), (1, .int p1), (2, .int x30), (3, .int y53_3), (4, .int y53_4), (5, .int y53_5), (6, .int y53_6)] → W p l e (rmF 8 222) s m ([.ref h0, .int p1] : List Value).toArray below meth c H locs 0 0 (MQ below (QcI z (fun r H => WX z v H)) ([.ref h0, .int p1] : List Value).toArray s 0 0 (zA z)) (F0 m 53 ls []) := by
        intro n53
        induction n53 with
        | zero => intro ls H locs y53_3 y53_4 y53_5 y53_6 gh j53_y53_5 j53_y53_6 ex53_0 mm53 hwf hvis hst5 hT hS hl; exfalso; omega
        | succ n53 ih53 =>
          intro ls H locs y53_3 y53_4 y53_5 y53_6 gh j53_y53_5 j53_y53_6 ex53_0 mm53 hwf hvis hst5 hT hS hl
          refine lv_iload hx hb dX7_orders_53 (lv_at hl 6 rfl) ?_
          refine lv_iload_n hx hb dX7_orders_55 rfl (lv_at hl 2 rfl) ?_
          refine lv_iload_n hx hb dX7_orders_56 rfl (lv_at hl 2 rfl) ?_
          refine cl_Si (rest := [.int y53_6]) hC hK hSK (c_X7_power l z gh x30 x30 (by omega) (by omega)) k_X7_power mw_5_142 ⟨rfl, rfl, Nat.le_of_ble_eq_true rfl, Nat.le_of_ble_eq_true rfl⟩ hT rfl hl.1 rfl (Nat.le_of_ble_eq_true rfl) dX7_orders_57 ⟨Nat.zero_le _, Nat.zero_le _⟩ hS (fun _ h => h) (fun _ _ h => h) (fun r57 H locs hpo hS => ?_)
          obtain ⟨hT, u57_0, u57_1⟩ := hpo
          refine r_icmp_ge (tgt := 200) hx hb dX7_orders_60 (by decide) (fun c60 => ?_) (fun c60 => ?_)
          · refine lv_iload_n hx hb dX7_orders_200 rfl (lv_at hl 1 rfl) ?_
            refine cl_Si (rest := []) hC hK hSK (c_X7_isPart l z gh p1) k_X7_isPart mw_5_152 ⟨rfl, rfl, Nat.le_of_ble_eq_true rfl, Nat.le_of_ble_eq_true rfl⟩ hT rfl hl.1 rfl (Nat.le_of_ble_eq_true rfl) dX7_orders_201 ⟨Nat.zero_le _, Nat.zero_le _⟩ hS (fun _ h => h) (fun _ _ h => h) (fun r201 H locs hpo hS => ?_)
            obtain ⟨hT, u201_0, u201_1, u201_2⟩ := hpo
            refine r_if_eq (tgt := 218) hx hb dX7_orders_204 (by decide) (fun c204 => ?_) (fun c204 => ?_)
            · refine lv_iload hx hb dX7_orders_218 (lv_at hl 5 rfl) ?_
              refine r_bipush hx hb dX7_orders_220 rfl (fun x220 e220 => ?_)
              refine r_icmp_eq (tgt := 233) hx hb dX7_orders_222 (by decide) (fun c222 => ?_) (fun c222 => ?_)
              · refine r_bipush hx hb dX7_orders_233 rfl (fun x233 e233 => ?_)
                exact rt_i hx hb hr hlk hS ⟨_, hwf, hvis, hT⟩ dX7_orders_235
              · refine lv_iload_n hx hb dX7_orders_225 rfl (lv_at hl 1 rfl) ?_
                refine r_bipush hx hb dX7_orders_226 rfl (fun x226 e226 => ?_)
                refine r_isub hx hb dX7_orders_228 (by omega) (by omega) (fun x228 e228 => ?_)
                refine lv_iload_n hx hb dX7_orders_229 rfl (lv_at hl 2 rfl) ?_
                refine r_icmp_lt (tgt := 236) hx hb dX7_orders_230 (by decide) (fun c230 => ?_) (fun c230 => ?_)
                · refine lv_aload_n hx hb dX7_orders_236 rfl (lv_at hl 0 rfl) ?_
                  refine lv_iload hx hb dX7_orders_237 (lv_at hl 5 rfl) ?_
                  refine cl_Vi (rest := []) hC hK hSK (c_X7_isOrder l z gh h0 (o0) g0 y53_5 (by omega) hst5) k_X7_isOrder mw_5_155 ⟨rfl, rfl, Nat.le_of_ble_eq_true rfl, Nat.le_of_ble_eq_true rfl⟩ (rv_Model hK hT g0) hT rfl hl.1 rfl (Nat.le_of_ble_eq_true rfl) dX7_orders_239 ⟨Nat.zero_le _, Nat.zero_le _⟩ hS (fun _ h => h) (fun _ _ h => h) (fun r239 H locs hpo hS => ?_)
                  obtain ⟨hT, u239_0⟩ := hpo
                  refine lv_pop hx hb dX7_orders_242 rfl ?_
                  refine lv_aload_n hx hb dX7_orders_243 rfl (lv_at hl 0 rfl) ?_
                  refine gt_Model_order hx hb hts ic_Model hown hK hT g0 (hts _ mw_4_88) dX7_orders_244 (fun q244 hq244 => ?_)
                  refine lv_iload_n hx hb dX7_orders_247 rfl (lv_at hl 1 rfl) ?_
                  refine r_bipush hx hb dX7_orders_248 rfl (fun x248 e248 => ?_)
                  refine r_isub hx hb dX7_orders_250 (by omega) (by omega) (fun x250 e250 => ?_)
                  refine al_46 hx hb hK hT hq244 (by omega) (by omega) dX7_orders_251 (fun x251 e251 => ?_)
                  have n251 := ix_nat (i := x250) (by omega)
                  unfold p46 at e251
                  exact rt_i hx hb hr hlk hS ⟨_, hwf, hvis, hT⟩ dX7_orders_252
                · refine r_bipush hx hb dX7_orders_233 rfl (fun x233 e233 => ?_)
                  exact rt_i hx hb hr hlk hS ⟨_, hwf, hvis, hT⟩ dX7_orders_235
            · refine lv_iload_n hx hb dX7_orders_207 rfl (lv_at hl 1 rfl) ?_
              refine r_if_ne (tgt := 215) hx hb dX7_orders_208 (by decide) (fun c208 => ?_) (fun c208 => ?_)
              · refine lv_iload hx hb dX7_orders_215 (lv_at hl 4 rfl) ?_
                exact rt_i hx hb hr hlk hS ⟨_, hwf, hvis, hT⟩ dX7_orders_217
              · refine lv_iload_n hx hb dX7_orders_211 rfl (lv_at hl 3 rfl) ?_
                refine lv_goto (tgt := 217) hx hb dX7_orders_212 (by decide) ?_
                exact rt_i hx hb hr hlk hS ⟨_, hwf, hvis, hT⟩ dX7_orders_217
          · refine lv_aload_n hx hb dX7_orders_63 rfl (lv_at hl 0 rfl) ?_
            refine lv_iload hx hb dX7_orders_64 (lv_at hl 6 rfl) ?_
            refine cl_Vi (rest := []) hC hK hSK (c_X7_isOrder l z gh h0 (o0) g0 y53_6 (by omega) hst5) k_X7_isOrder mw_5_155 ⟨rfl, rfl, Nat.le_of_ble_eq_true rfl, Nat.le_of_ble_eq_true rfl⟩ (rv_Model hK hT g0) hT rfl hl.1 rfl (Nat.le_of_ble_eq_true rfl) dX7_orders_66 ⟨Nat.zero_le _, Nat.zero_le _⟩ hS (fun _ h => h) (fun _ _ h => h) (fun r66 H locs hpo hS => ?_)
            obtain ⟨hT, u66_0⟩ := hpo
            have J194 : ∀ (ls : Array Slot) (H : Heap) (locs : List Loc) (y194_3 : Int32) (y194_4 : Int32) (y194_5 : Int32) (gh : Gh), (-4 ≤ y194_5.toInt ∧ y194_5.toInt ≤ 99999) → (y194_5.toInt = -4 ∨ 0 ≤ y194_5.toInt) → (100000 - y53_6.toInt) < ((n53 + 1 : Nat) : Int) → wf z gh → vis z gh v → (∀ q, zG z q = (40, h0) → (gh.2 q 31).toInt ≤ 5) → TY z (zA z) gh H → va_S (zA z) s.heap H locs → lv_has ls 9 [(0, .ref h0), (1, .int p1), (2, .int x30), (3, .int y194_3), (4, .int y194_4), (5, .int y194_5), (6, .int y53_6)] → W p l e (rmF 8 222) s m ([.ref h0, .int p1] : List Value).toArray below meth c H locs 0 0 (MQ below (QcI z (fun r H => WX z v H)) ([.ref h0, .int p1] : List Value).toArray s 0 0 (zA z)) (F0 m 194 ls []) := by
              intro ls H locs y194_3 y194_4 y194_5 gh j194_y194_5 ex194_0 mf194_53 hwf hvis hst5 hT hS hl
              refine r_iinc (lv' := fun v__ => [(6, .int v__), (0, .ref h0), (1, .int p1), (2, .int x30), (3, .int y194_3), (4, .int y194_4), (5, .int y194_5)]) hx hb dX7_orders_194 hl (k := 6) rfl (by decide) (fun _ => rfl) ⟨by decide, by decide⟩ (by omega) (by omega) (fun x194 ls e194 hl => ?_)
              refine lv_goto (tgt := 53) hx hb dX7_orders_197 (by decide) ?_
              exact ih53 ls _ _ y194_3 y194_4 y194_5 x194 _ (by omega) (by omega) (by omega) (by omega) hwf hvis hst5 hT hS (lv_sub hl [1, 2, 3, 4, 5, 6, 0] rfl)
            refine r_if_eq (tgt := 194) hx hb dX7_orders_69 (by decide) (fun c69 => ?_) (fun c69 => ?_)
            · exact J194 ls _ _ y53_3 y53_4 y53_5 _ (by omega) (by omega) (by omega) hwf hvis hst5 hT hS (lv_sub hl [0, 1, 2, 3, 4, 5, 6] rfl)
            · refine r_iconst hx hb dX7_orders_72 (by decide) (by decide) (fun x72 e72 => ?_)
              refine lv_istore (lv' := [(7, .int x72), (0, .ref h0), (1, .int p1), (2, .int x30), (3, .int y53_3), (4, .int y53_4), (5, .int y53_5), (6, .int y53_6)]) hx hb dX7_orders_73 hl (by decide) rfl (fun ls hl => ?_)
              refine lv_aload_n hx hb dX7_orders_75 rfl (lv_at hl 1 rfl) ?_
              refine cl_Vv (rest := []) hC hK hSK (c_X7_starts l z gh h0 (o0) g0 hwf) k_X7_starts mw_4_229 ⟨rfl, rfl, Nat.le_of_ble_eq_true rfl, Nat.le_of_ble_eq_true rfl⟩ (rv_Model hK hT g0) hT rfl hl.1 rfl (Nat.le_of_ble_eq_true rfl) dX7_orders_76 ⟨Nat.zero_le _, Nat.zero_le _⟩ hS (fun _ h => h) (fun _ _ h => h) (fun H locs hpo hS => ?_)
              obtain ⟨gh76, hz76, hst76, hnow, hT⟩ := hpo
              have hwf := wf_ne hz76 hwf
              have hvis := vis_ne hz76 hvis
              have r41_76 := hz76 h0 41 (by decide) (by decide)
              have hst5 : ∀ q, zG z q = (40, h0) → (gh76.2 q 31).toInt ≤ 5 := fun q hq => by rw [hst76 q (by rw [hq])]; exact hst5 q hq
              refine r_iconst hx hb dX7_orders_79 (by decide) (by decide) (fun x79 e79 => ?_)
              refine lv_istore (lv' := [(8, .int x79), (7, .int x72), (0, .ref h0), (1, .int p1), (2, .int x30), (3, .int y53_3), (4, .int y53_4), (5, .int y53_5), (6, .int y53_6)]) hx hb dX7_orders_80 hl (by decide) rfl (fun ls hl => ?_)
              have J82 : ∀ (n82 : Nat) (ls : Array Slot) (H : Heap) (locs : List Loc) (y82_7 : Int32) (y82_8 : Int32) (gh : Gh), (0 ≤ y82_8.toInt ∧ y82_8.toInt ≤ 5) → (100000 - y53_6.toInt) < ((n53 + 1 : Nat) : Int) → (5 - y82_8.toInt) < (n82 : Int) → wf z gh → vis z gh v → nowOK (gh.1 h0) → (∀ q, zG z q = (40, h0) → (gh.2 q 31).toInt ≤ 5) → TY z (zA z) gh H → va_S (zA z) s.heap H locs → lv_has ls 9 [(0, .ref h0), (1, .int p1), (2, .int x30), (3, .int y53_3), (4, .int y53_4), (5, .int y53_5), (6, .int y53_6), (7, .int y82_7), (8, .int y82_8)] → W p l e (rmF 8 222) s m ([.ref h0, .int p1] : List Value).toArray below meth c H locs 0 0 (MQ below (QcI z (fun r H => WX z v H)) ([.ref h0, .int p1] : List Value).toArray s 0 0 (zA z)) (F0 m 82 ls []) := by
                intro n82
                induction n82 with
                | zero => intro ls H locs y82_7 y82_8 gh j82_y82_8 mf82_53 mm82 hwf hvis hnow hst5 hT hS hl; exfalso; omega
                | succ n82 ih82 =>
                  intro ls H locs y82_7 y82_8 gh j82_y82_8 mf82_53 mm82 hwf hvis hnow hst5 hT hS hl
                  refine lv_iload hx hb dX7_orders_82 (lv_at hl 8 rfl) ?_
                  refine lv_iload_n hx hb dX7_orders_84 rfl (lv_at hl 2 rfl) ?_
                  have J129 : ∀ (ls : Array Slot) (H : Heap) (locs : List Loc) (gh : Gh), (100000 - y53_6.toInt) < ((n53 + 1 : Nat) : Int) → wf z gh → vis z gh v → nowOK (gh.1 h0) → (∀ q, zG z q = (40, h0) → (gh.2 q 31).toInt ≤ 5) → TY z (zA z) gh H → va_S (zA z) s.heap H locs → lv_has ls 9 [(0, .ref h0), (1, .int p1), (2, .int x30), (3, .int y53_3), (4, .int y53_4), (5, .int y53_5), (6, .int y53_6), (7, .int y82_7), (8, .int y82_8)] → W p l e (rmF 8 222) s m ([.ref h0, .int p1] : List Value).toArray below meth c H locs 0 0 (MQ below (QcI z (fun r H => WX z v H)) ([.ref h0, .int p1] : List Value).toArray s 0 0 (zA z)) (F0 m 129 ls []) := by
                    intro ls H locs gh mf129_53 hwf hvis hnow hst5 hT hS hl
                    refine lv_iload hx hb dX7_orders_129 (lv_at hl 7 rfl) ?_
                    have J145 : ∀ (ls : Array Slot) (H : Heap) (locs : List Loc) (t145_0 : Int32) (gh : Gh), (-4 ≤ t145_0.toInt ∧ t145_0.toInt ≤ 99999) → (t145_0.toInt = -4 ∨ 0 ≤ t145_0.toInt) → (100000 - y53_6.toInt) < ((n53 + 1 : Nat) : Int) → wf z gh → vis z gh v → nowOK (gh.1 h0) → (∀ q, zG z q = (40, h0) → (gh.2 q 31).toInt ≤ 5) → TY z (zA z) gh H → va_S (zA z) s.heap H locs → lv_has ls 9 [(0, .ref h0), (1, .int p1), (2, .int x30), (3, .int y53_3), (4, .int y53_4), (5, .int y53_5), (6, .int y53_6), (7, .int y82_7), (8, .int y82_8)] → W p l e (rmF 8 222) s m ([.ref h0, .int p1] : List Value).toArray below meth c H locs 0 0 (MQ below (QcI z (fun r H => WX z v H)) ([.ref h0, .int p1] : List Value).toArray s 0 0 (zA z)) (F0 m 145 ls [.int t145_0]) := by
                      intro ls H locs t145_0 gh j145_t145_0 ex145_0 mf145_53 hwf hvis hnow hst5 hT hS hl
                      refine lv_istore (lv' := [(5, .int t145_0), (0, .ref h0), (1, .int p1), (2, .int x30), (3, .int y53_3), (4, .int y53_4), (6, .int y53_6), (7, .int y82_7), (8, .int y82_8)]) hx hb dX7_orders_145 hl (by decide) rfl (fun ls hl => ?_)
                      refine lv_iload hx hb dX7_orders_147 (lv_at hl 7 rfl) ?_
                      have J176 : ∀ (ls : Array Slot) (H : Heap) (locs : List Loc) (t176_0 : Int32) (gh : Gh), (100000 - y53_6.toInt) < ((n53 + 1 : Nat) : Int) → wf z gh → vis z gh v → nowOK (gh.1 h0) → (∀ q, zG z q = (40, h0) → (gh.2 q 31).toInt ≤ 5) → TY z (zA z) gh H → va_S (zA z) s.heap H locs → lv_has ls 9 [(0, .ref h0), (1, .int p1), (2, .int x30), (3, .int y53_3), (4, .int y53_4), (5, .int t145_0), (6, .int y53_6), (7, .int y82_7), (8, .int y82_8)] → W p l e (rmF 8 222) s m ([.ref h0, .int p1] : List Value).toArray below meth c H locs 0 0 (MQ below (QcI z (fun r H => WX z v H)) ([.ref h0, .int p1] : List Value).toArray s 0 0 (zA z)) (F0 m 176 ls [.int t176_0]) := by
                        intro ls H locs t176_0 gh mf176_53 hwf hvis hnow hst5 hT hS hl
                        refine lv_istore (lv' := [(4, .int t176_0), (0, .ref h0), (1, .int p1), (2, .int x30), (3, .int y53_3), (5, .int t145_0), (6, .int y53_6), (7, .int y82_7), (8, .int y82_8)]) hx hb dX7_orders_176 hl (by decide) rfl (fun ls hl => ?_)
                        refine lv_iload_n hx hb dX7_orders_178 rfl (lv_at hl 4 rfl) ?_
                        refine lv_iload hx hb dX7_orders_179 (lv_at hl 7 rfl) ?_
                        have J189 : ∀ (ls : Array Slot) (H : Heap) (locs : List Loc) (t189_1 : Int32) (gh : Gh), (0 ≤ t189_1.toInt ∧ t189_1.toInt ≤ 1) → (100000 - y53_6.toInt) < ((n53 + 1 : Nat) : Int) → wf z gh → vis z gh v → nowOK (gh.1 h0) → (∀ q, zG z q = (40, h0) → (gh.2 q 31).toInt ≤ 5) → TY z (zA z) gh H → va_S (zA z) s.heap H locs → lv_has ls 9 [(0, .ref h0), (1, .int p1), (2, .int x30), (3, .int y53_3), (4, .int t176_0), (5, .int t145_0), (6, .int y53_6), (7, .int y82_7), (8, .int y82_8)] → W p l e (rmF 8 222) s m ([.ref h0, .int p1] : List Value).toArray below meth c H locs 0 0 (MQ below (QcI z (fun r H => WX z v H)) ([.ref h0, .int p1] : List Value).toArray s 0 0 (zA z)) (F0 m 189 ls [.int t189_1, .int y53_3]) := by
                          intro ls H locs t189_1 gh j189_t189_1 mf189_53 hwf hvis hnow hst5 hT hS hl
                          refine cl_Si (rest := [.int y53_3]) hC hK hSK (c_X7_flag l z gh t189_1 (by omega)) k_X7_flag mw_5_4 ⟨rfl, rfl, Nat.le_of_ble_eq_true rfl, Nat.le_of_ble_eq_true rfl⟩ hT rfl hl.1 rfl (Nat.le_of_ble_eq_true rfl) dX7_orders_189 ⟨Nat.zero_le _, Nat.zero_le _⟩ hS (fun _ h => h) (fun _ _ h => h) (fun r189 H locs hpo hS => ?_)
                          obtain ⟨hT, u189_0⟩ := hpo
                          refine w_iadd hx hb dX7_orders_192 (fun x192 => ?_)
                          refine lv_istore_n (lv' := [(3, .int x192), (0, .ref h0), (1, .int p1), (2, .int x30), (4, .int t176_0), (5, .int t145_0), (6, .int y53_6), (7, .int y82_7), (8, .int y82_8)]) hx hb dX7_orders_193 rfl hl (by decide) rfl (fun ls hl => ?_)
                          exact J194 ls _ _ x192 t176_0 t145_0 _ (by omega) (by omega) (by omega) hwf hvis hst5 hT hS (lv_sub hl [1, 2, 3, 0, 4, 5, 6] rfl)
                        refine r_if_ne (tgt := 188) hx hb dX7_orders_181 (by decide) (fun c181 => ?_) (fun c181 => ?_)
                        · refine r_iconst hx hb dX7_orders_188 (by decide) (by decide) (fun x188 e188 => ?_)
                          exact J189 ls _ _ x188 _ (by omega) (by omega) hwf hvis hnow hst5 hT hS (lv_sub hl [1, 2, 3, 4, 0, 5, 6, 7, 8] rfl)
                        · refine r_iconst hx hb dX7_orders_184 (by decide) (by decide) (fun x184 e184 => ?_)
                          refine lv_goto (tgt := 189) hx hb dX7_orders_185 (by decide) ?_
                          exact J189 ls _ _ x184 _ (by omega) (by omega) hwf hvis hnow hst5 hT hS (lv_sub hl [1, 2, 3, 4, 0, 5, 6, 7, 8] rfl)
                      have J174 : ∀ (ls : Array Slot) (H : Heap) (locs : List Loc) (gh : Gh), (100000 - y53_6.toInt) < ((n53 + 1 : Nat) : Int) → wf z gh → vis z gh v → nowOK (gh.1 h0) → (∀ q, zG z q = (40, h0) → (gh.2 q 31).toInt ≤ 5) → TY z (zA z) gh H → va_S (zA z) s.heap H locs → lv_has ls 9 [(0, .ref h0), (1, .int p1), (2, .int x30), (3, .int y53_3), (4, .int y53_4), (5, .int t145_0), (6, .int y53_6), (7, .int y82_7), (8, .int y82_8)] → W p l e (rmF 8 222) s m ([.ref h0, .int p1] : List Value).toArray below meth c H locs 0 0 (MQ below (QcI z (fun r H => WX z v H)) ([.ref h0, .int p1] : List Value).toArray s 0 0 (zA z)) (F0 m 174 ls []) := by
                        intro ls H locs gh mf174_53 hwf hvis hnow hst5 hT hS hl
                        refine lv_iload hx hb dX7_orders_174 (lv_at hl 4 rfl) ?_
                        exact J176 ls _ _ y53_4 _ (by omega) hwf hvis hnow hst5 hT hS (lv_sub hl [0, 1, 2, 3, 4, 5, 6, 7, 8] rfl)
                      refine r_if_ne (tgt := 174) hx hb dX7_orders_149 (by decide) (fun c149 => ?_) (fun c149 => ?_)
                      · exact J174 ls _ _ _ (by omega) hwf hvis hnow hst5 hT hS (lv_sub hl [1, 2, 3, 4, 5, 0, 6, 7, 8] rfl)
                      · refine lv_aload_n hx hb dX7_orders_152 rfl (lv_at hl 1 rfl) ?_
                        refine cl_Vi (rest := []) hC hK hSK (c_X7_round l z gh h0 (o0) g0) k_X7_round mw_5_0 ⟨rfl, rfl, Nat.le_of_ble_eq_true rfl, Nat.le_of_ble_eq_true rfl⟩ (rv_Model hK hT g0) hT rfl hl.1 rfl (Nat.le_of_ble_eq_true rfl) dX7_orders_153 ⟨Nat.zero_le _, Nat.zero_le _⟩ hS (fun _ h => h) (fun _ _ h => h) (fun r153 H locs hpo hS => ?_)
                        have hT := hpo
                        refine cl_Si (rest := []) hC hK hSK (c_X7_bitsOf l z gh r153) k_X7_bitsOf mw_4_237 ⟨rfl, rfl, Nat.le_of_ble_eq_true rfl, Nat.le_of_ble_eq_true rfl⟩ hT rfl hl.1 rfl (Nat.le_of_ble_eq_true rfl) dX7_orders_156 ⟨Nat.zero_le _, Nat.zero_le _⟩ hS (fun _ h => h) (fun _ _ h => h) (fun r156 H locs hpo hS => ?_)
                        have hT := hpo
                        refine lv_iload hx hb dX7_orders_159 (lv_at hl 5 rfl) ?_
                        refine r_icmp_le (tgt := 174) hx hb dX7_orders_161 (by decide) (fun c161 => ?_) (fun c161 => ?_)
                        · exact J174 ls _ _ _ (by omega) hwf hvis hnow hst5 hT hS (lv_sub hl [1, 2, 3, 4, 5, 0, 6, 7, 8] rfl)
                        · refine lv_aload_n hx hb dX7_orders_164 rfl (lv_at hl 1 rfl) ?_
                          refine cl_Vi (rest := []) hC hK hSK (c_X7_round l z gh h0 (o0) g0) k_X7_round mw_5_0 ⟨rfl, rfl, Nat.le_of_ble_eq_true rfl, Nat.le_of_ble_eq_true rfl⟩ (rv_Model hK hT g0) hT rfl hl.1 rfl (Nat.le_of_ble_eq_true rfl) dX7_orders_165 ⟨Nat.zero_le _, Nat.zero_le _⟩ hS (fun _ h => h) (fun _ _ h => h) (fun r165 H locs hpo hS => ?_)
                          have hT := hpo
                          refine cl_Si (rest := []) hC hK hSK (c_X7_bitsOf l z gh r165) k_X7_bitsOf mw_4_237 ⟨rfl, rfl, Nat.le_of_ble_eq_true rfl, Nat.le_of_ble_eq_true rfl⟩ hT rfl hl.1 rfl (Nat.le_of_ble_eq_true rfl) dX7_orders_168 ⟨Nat.zero_le _, Nat.zero_le _⟩ hS (fun _ h => h) (fun _ _ h => h) (fun r168 H locs hpo hS => ?_)
                          have hT := hpo
                          refine lv_goto (tgt := 176) hx hb dX7_orders_171 (by decide) ?_
                          exact J176 ls _ _ r168 _ (by omega) hwf hvis hnow hst5 hT hS (lv_sub hl [1, 2, 3, 4, 5, 0, 6, 7, 8] rfl)
                    have J143 : ∀ (ls : Array Slot) (H : Heap) (locs : List Loc) (gh : Gh), (100000 - y53_6.toInt) < ((n53 + 1 : Nat) : Int) → wf z gh → vis z gh v → nowOK (gh.1 h0) → (∀ q, zG z q = (40, h0) → (gh.2 q 31).toInt ≤ 5) → TY z (zA z) gh H → va_S (zA z) s.heap H locs → lv_has ls 9 [(0, .ref h0), (1, .int p1), (2, .int x30), (3, .int y53_3), (4, .int y53_4), (5, .int y53_5), (6, .int y53_6), (7, .int y82_7), (8, .int y82_8)] → W p l e (rmF 8 222) s m ([.ref h0, .int p1] : List Value).toArray below meth c H locs 0 0 (MQ below (QcI z (fun r H => WX z v H)) ([.ref h0, .int p1] : List Value).toArray s 0 0 (zA z)) (F0 m 143 ls []) := by
                      intro ls H locs gh mf143_53 hwf hvis hnow hst5 hT hS hl
                      refine lv_iload hx hb dX7_orders_143 (lv_at hl 5 rfl) ?_
                      exact J145 ls _ _ y53_5 _ (by omega) (by omega) (by omega) hwf hvis hnow hst5 hT hS (lv_sub hl [0, 1, 2, 3, 4, 5, 6, 7, 8] rfl)
                    refine r_if_ne (tgt := 143) hx hb dX7_orders_131 (by decide) (fun c131 => ?_) (fun c131 => ?_)
                    · exact J143 ls _ _ _ (by omega) hwf hvis hnow hst5 hT hS (lv_sub hl [0, 1, 2, 3, 4, 5, 6, 7, 8] rfl)
                    · refine lv_iload_n hx hb dX7_orders_134 rfl (lv_at hl 3 rfl) ?_
                      refine r_if_ne (tgt := 143) hx hb dX7_orders_135 (by decide) (fun c135 => ?_) (fun c135 => ?_)
                      · exact J143 ls _ _ _ (by omega) hwf hvis hnow hst5 hT hS (lv_sub hl [0, 1, 2, 3, 4, 5, 6, 7, 8] rfl)
                      · refine lv_iload hx hb dX7_orders_138 (lv_at hl 6 rfl) ?_
                        refine lv_goto (tgt := 145) hx hb dX7_orders_140 (by decide) ?_
                        exact J145 ls _ _ y53_6 _ (by omega) (by omega) (by omega) hwf hvis hnow hst5 hT hS (lv_sub hl [0, 1, 2, 3, 4, 5, 6, 7, 8] rfl)
                  refine r_icmp_ge (tgt := 129) hx hb dX7_orders_85 (by decide) (fun c85 => ?_) (fun c85 => ?_)
                  · exact J129 ls _ _ _ (by omega) hwf hvis hnow hst5 hT hS (lv_sub hl [0, 1, 2, 3, 4, 5, 6, 7, 8] rfl)
                  · refine lv_aload_n hx hb dX7_orders_88 rfl (lv_at hl 0 rfl) ?_
                    refine gt_Model_men hx hb hts ic_Model hown hK hT g0 (hts _ mw_4_73) dX7_orders_89 (fun x89 i89 e89 g89 => ?_)
                    refine r_if_le (tgt := 129) hx hb dX7_orders_92 (by decide) (fun c92 => ?_) (fun c92 => ?_)
                    · exact J129 ls _ _ _ (by omega) hwf hvis hnow hst5 hT hS (lv_sub hl [0, 1, 2, 3, 4, 5, 6, 7, 8] rfl)
                    · refine lv_aload_n hx hb dX7_orders_95 rfl (lv_at hl 0 rfl) ?_
                      refine lv_aload_n hx hb dX7_orders_96 rfl (lv_at hl 0 rfl) ?_
                      refine gt_Model_now hx hb hts ic_Model hown hK hT g0 (hts _ mw_4_71) dX7_orders_97 (fun q97 hq97 => ?_)
                      refine r_bipush hx hb dX7_orders_100 rfl (fun x100 e100 => ?_)
                      refine lv_aload_n hx hb dX7_orders_102 rfl (lv_at hl 0 rfl) ?_
                      refine gt_Model_order hx hb hts ic_Model hown hK hT g0 (hts _ mw_4_88) dX7_orders_103 (fun q103 hq103 => ?_)
                      refine lv_iload hx hb dX7_orders_106 (lv_at hl 8 rfl) ?_
                      refine al_46 hx hb hK hT hq103 (by omega) (by omega) dX7_orders_108 (fun x108 e108 => ?_)
                      have n108 := ix_nat (i := y82_8) (by omega)
                      unfold p46 at e108
                      refine r_iadd hx hb dX7_orders_109 (by omega) (by omega) (fun x109 e109 => ?_)
                      refine al_41 hx hb hK hT hq97 (by omega) (by omega) dX7_orders_110 (fun x110 i110 e110 => ?_)
                      have n110 := ix_nat (i := x109) (by omega)
                      refine cl_Vv (rest := []) hC hK hSK (c_X7_danceOn l z gh h0 (o0) g0 x110 hwf.2.2 hnow) k_X7_danceOn mw_5_88 ⟨rfl, rfl, Nat.le_of_ble_eq_true rfl, Nat.le_of_ble_eq_true rfl⟩ (rv_Model hK hT g0) hT rfl hl.1 rfl (Nat.le_of_ble_eq_true rfl) dX7_orders_111 ⟨Nat.zero_le _, Nat.zero_le _⟩ hS (fun _ h => h) (fun _ _ h => h) (fun H locs hpo hS => ?_)
                      obtain ⟨gh111, hz111, hT⟩ := hpo
                      have hst111 := hz111.2
                      have hz111 := eqv_eq hz111.1
                      have hwf := wf_of hz111 hwf
                      have hvis := vis_of hz111 hvis
                      have hnow := nowOK_of hz111 hnow
                      have r41_111 := hz111 h0 41 rfl
                      have hst5 : ∀ q, zG z q = (40, h0) → (gh111.2 q 31).toInt ≤ 5 := fun q hq => by rw [hst111 q (by rw [hq])]; exact hst5 q hq
                      refine lv_iload hx hb dX7_orders_114 (lv_at hl 7 rfl) ?_
                      refine lv_aload_n hx hb dX7_orders_116 rfl (lv_at hl 0 rfl) ?_
                      refine cl_Vi (rest := [.int y82_7]) hC hK hSK (c_X7_meetings l z gh111 h0 (o0) g0) k_X7_meetings mw_5_113 ⟨rfl, rfl, Nat.le_of_ble_eq_true rfl, Nat.le_of_ble_eq_true rfl⟩ (rv_Model hK hT g0) hT rfl hl.1 rfl (Nat.le_of_ble_eq_true rfl) dX7_orders_117 ⟨Nat.zero_le _, Nat.zero_le _⟩ hS (fun _ h => h) (fun _ _ h => h) (fun r117 H locs hpo hS => ?_)
                      have hT := hpo
                      refine w_iadd hx hb dX7_orders_120 (fun x120 => ?_)
                      refine lv_istore (lv' := [(7, .int x120), (0, .ref h0), (1, .int p1), (2, .int x30), (3, .int y53_3), (4, .int y53_4), (5, .int y53_5), (6, .int y53_6), (8, .int y82_8)]) hx hb dX7_orders_121 hl (by decide) rfl (fun ls hl => ?_)
                      refine r_iinc (lv' := fun v__ => [(8, .int v__), (7, .int x120), (0, .ref h0), (1, .int p1), (2, .int x30), (3, .int y53_3), (4, .int y53_4), (5, .int y53_5), (6, .int y53_6)]) hx hb dX7_orders_123 hl (k := 8) rfl (by decide) (fun _ => rfl) ⟨by decide, by decide⟩ (by omega) (by omega) (fun x123 ls e123 hl => ?_)
                      refine lv_goto (tgt := 82) hx hb dX7_orders_126 (by decide) ?_
                      exact ih82 ls _ _ x120 x123 _ (by omega) (by omega) (by omega) hwf hvis hnow hst5 hT hS (lv_sub hl [2, 3, 4, 5, 6, 7, 8, 1, 0] rfl)
              exact J82 (((5 - x79.toInt)).toNat + 1) ls _ _ x72 x79 _ (by omega) (by omega) (by omega) hwf hvis hnow hst5 hT hS (lv_sub hl [2, 3, 4, 5, 6, 7, 8, 1, 0] rfl)
      exact J53 (((100000 - x50.toInt)).toNat + 1) ls _ _ x40 x42 x46 x50 _ (by omega) (by omega) (by omega) (by omega) hwf hvis hst5 hT hS (lv_sub hl [5, 6, 4, 3, 2, 1, 0] rfl)
    · refine r_bipush hx hb dX7_orders_37 rfl (fun x37 e37 => ?_)
      exact rt_i hx hb hr hlk hS ⟨_, hwf, hvis, hT⟩ dX7_orders_39
  refine r_if_ne (tgt := 24) hx hb dX7_orders_4 (by decide) (fun c4 => ?_) (fun c4 => ?_)
  · exact J24 ls _ _ _ (by omega) hwf hvis hT hS (lv_sub hl [0, 1] rfl)
  · refine lv_iload_n hx hb dX7_orders_7 rfl (lv_at hl 1 rfl) ?_
    refine r_bipush hx hb dX7_orders_8 rfl (fun x8 e8 => ?_)
    refine s_isub hx hb dX7_orders_10 (fun x10 e10 g10 => ?_)
    refine r_i2l hx hb dX7_orders_11 (fun x11 e11 => ?_)
    refine r_lconst0 hx hb dX7_orders_12 (fun x12 e12 => ?_)
    refine r_ldc2 (4) rfl hx hb hts hown mw_5_112 dX7_orders_13 (fun x13 e13 => ?_)
    refine cl_Si (rest := []) hC hK hSK (c_X7_in l z gh x11 x12 x13) k_X7_in mw_4_154 ⟨rfl, rfl, Nat.le_of_ble_eq_true rfl, Nat.le_of_ble_eq_true rfl⟩ hT rfl hl.1 rfl (Nat.le_of_ble_eq_true rfl) dX7_orders_16 ⟨Nat.zero_le _, Nat.zero_le _⟩ hS (fun _ h => h) (fun _ _ h => h) (fun r16 H locs hpo hS => ?_)
    obtain ⟨hT, u16_0, u16_1⟩ := hpo
    refine r_if_ne (tgt := 24) hx hb dX7_orders_19 (by decide) (fun c19 => ?_) (fun c19 => ?_)
    · exact J24 ls _ _ _ (by omega) hwf hvis hT hS (lv_sub hl [0, 1] rfl)
    · refine r_iconst hx hb dX7_orders_22 (by decide) (by decide) (fun x22 e22 => ?_)
      exact rt_i hx hb hr hlk hS ⟨_, hwf, hvis, hT⟩ dX7_orders_23
theorem k_X7_programTwice : cBV yX7_programTwice cX7_programTwice 3 none 1 := ⟨mw_5_165, ms_3_14, mw_1_8, mw_5_166, ⟨by decide, by decide, by decide⟩⟩
set_option maxHeartbeats 4000000 in
set_option maxRecDepth 100000 in
theorem c_X7_programTwice (l : Launch) (z : Zt) (v : Nat → Nat → Int) (h0 o0 : Nat) (g0 : zG z h0 = (17, o0)) (p1 : Int32) : Met l yX7_programTwice (uw yX7_programTwice cX7_programTwice 3 none) (rmF 8 222) (PcW z [.ref h0, .int p1] (fun H => WX z v H)) (QcV z (fun H => WX z v H)) 0 0 (zA z) := by
  refine Met.ofW (cc := cX7_programTwice) (maxL := 3) (ret := none) (by decide) rfl ?_
  intro p e s m args below meth c s₁ B hml hv
  obtain ⟨rfl, hW, hK, hSK⟩ := hv
  have hx := B.exec
  have hb := B.bytes
  have hr := B.returns
  have hts : ∀ w ∈ lw_ok, w.before ([.ref h0, .int p1] : List Value).toArray s = true := fun w hw => atoms_spec (ws := uw yX7_programTwice cX7_programTwice 3 none) B.pre w (List.mem_cons_of_mem _ hw)
  have hown : s.vm.findClass RX7 = some m.cls := findClass_of_methodNamed B.named
  have hlk := B.notSynchronized
  have hC : CallFix p m c cX7_programTwice 3 s ([.ref h0, .int p1] : List Value).toArray lw_ok RX7 := ⟨hx, hb, hml, hown, hts⟩
  have hS : va_S (zA z) s.heap s.heap [] := va_S.rf
  have hl := lv_entry ([.ref h0, .int p1]) (n := 3) (Nat.le_of_ble_eq_true rfl)
  rw [lg_entry_eq]
  generalize (lg_sl ([.ref h0, .int p1]) ++ List.replicate (3 - (lg_sl ([.ref h0, .int p1])).length) Slot.unset).toArray = ls at hl ⊢
  have hl : lv_has ls 3 [(0, .ref h0), (1, .int p1)] := hl
  show W p l e (rmF 8 222) s m ([.ref h0, .int p1] : List Value).toArray below meth c s.heap [] 0 0 (MQ below (QcV z (fun H => WX z v H)) ([.ref h0, .int p1] : List Value).toArray s 0 0 (zA z)) (F0 m 0 ls [])
  obtain ⟨gh, hwf, hvis, hT⟩ := hW
  have mx_p1 := i_mx p1
  refine lv_aload_n hx hb dX7_programTwice_0 rfl (lv_at hl 0 rfl) ?_
  refine cl_Vv (rest := []) hC hK hSK (c_X7_starts l z gh h0 (o0) g0 hwf) k_X7_starts mw_4_229 ⟨rfl, rfl, Nat.le_of_ble_eq_true rfl, Nat.le_of_ble_eq_true rfl⟩ (rv_Model hK hT g0) hT rfl hl.1 rfl (Nat.le_of_ble_eq_true rfl) dX7_programTwice_1 ⟨Nat.zero_le _, Nat.zero_le _⟩ hS (fun _ h => h) (fun _ _ h => h) (fun H locs hpo hS => ?_)
  obtain ⟨gh1, hz1, hst1, hnow, hT⟩ := hpo
  have hwf := wf_ne hz1 hwf
  have hvis := vis_ne hz1 hvis
  have r41_1 := hz1 h0 41 (by decide) (by decide)
  refine r_iconst hx hb dX7_programTwice_4 (by decide) (by decide) (fun x4 e4 => ?_)
  refine lv_istore_n (lv' := [(2, .int x4), (0, .ref h0), (1, .int p1)]) hx hb dX7_programTwice_5 rfl hl (by decide) rfl (fun ls hl => ?_)
  have J6 : ∀ (n6 : Nat) (ls : Array Slot) (H : Heap) (locs : List Loc) (y6_2 : Int32) (gh : Gh), (0 ≤ y6_2.toInt ∧ y6_2.toInt ≤ 8) → (8 - y6_2.toInt) < (n6 : Int) → wf z gh → vis z gh v → nowOK (gh.1 h0) → TY z (zA z) gh H → va_S (zA z) s.heap H locs → lv_has ls 3 [(0, .ref h0), (1, .int p1), (2, .int y6_2)] → W p l e (rmF 8 222) s m ([.ref h0, .int p1] : List Value).toArray below meth c H locs 0 0 (MQ below (QcV z (fun H => WX z v H)) ([.ref h0, .int p1] : List Value).toArray s 0 0 (zA z)) (F0 m 6 ls []) := by
    intro n6
    induction n6 with
    | zero => intro ls H locs y6_2 gh j6_y6_2 mm6 hwf hvis hnow hT hS hl; exfalso; omega
    | succ n6 ih6 =>
      intro ls H locs y6_2 gh j6_y6_2 mm6 hwf hvis hnow hT hS hl
      refine lv_iload_n hx hb dX7_programTwice_6 rfl (lv_at hl 2 rfl) ?_
      refine lv_aload_n hx hb dX7_programTwice_7 rfl (lv_at hl 0 rfl) ?_
      refine gt_Model_now hx hb hts ic_Model hown hK hT g0 (hts _ mw_4_71) dX7_programTwice_8 (fun q8 hq8 => ?_)
      refine r_bipush hx hb dX7_programTwice_11 rfl (fun x11 e11 => ?_)
      refine al_41 hx hb hK hT hq8 (by omega) (by omega) dX7_programTwice_13 (fun x13 i13 e13 => ?_)
      have n13 := ix_nat (i := x11) (by omega)
      have f13 := b59_r31 (p41_e e13) (by omega)
      refine r_icmp_ge (tgt := 65) hx hb dX7_programTwice_14 (by decide) (fun c14 => ?_) (fun c14 => ?_)
      · exact rt_v hx hb hr hlk hS ⟨_, hwf, hvis, hT⟩ dX7_programTwice_65
      · refine lv_aload_n hx hb dX7_programTwice_17 rfl (lv_at hl 0 rfl) ?_
        refine gt_Model_men hx hb hts ic_Model hown hK hT g0 (hts _ mw_4_73) dX7_programTwice_18 (fun x18 i18 e18 g18 => ?_)
        refine r_if_le (tgt := 65) hx hb dX7_programTwice_21 (by decide) (fun c21 => ?_) (fun c21 => ?_)
        · exact rt_v hx hb hr hlk hS ⟨_, hwf, hvis, hT⟩ dX7_programTwice_65
        · refine lv_aload_n hx hb dX7_programTwice_24 rfl (lv_at hl 0 rfl) ?_
          refine lv_aload_n hx hb dX7_programTwice_25 rfl (lv_at hl 0 rfl) ?_
          refine gt_Model_now hx hb hts ic_Model hown hK hT g0 (hts _ mw_4_71) dX7_programTwice_26 (fun q26 hq26 => ?_)
          refine r_bipush hx hb dX7_programTwice_29 rfl (fun x29 e29 => ?_)
          refine lv_iload_n hx hb dX7_programTwice_31 rfl (lv_at hl 2 rfl) ?_
          refine r_iadd hx hb dX7_programTwice_32 (by omega) (by omega) (fun x32 e32 => ?_)
          refine al_41 hx hb hK hT hq26 (by omega) (by omega) dX7_programTwice_33 (fun x33 i33 e33 => ?_)
          have n33 := ix_nat (i := x32) (by omega)
          refine cl_Vv (rest := []) hC hK hSK (c_X7_danceOn l z gh h0 (o0) g0 x33 hwf.2.2 hnow) k_X7_danceOn mw_5_88 ⟨rfl, rfl, Nat.le_of_ble_eq_true rfl, Nat.le_of_ble_eq_true rfl⟩ (rv_Model hK hT g0) hT rfl hl.1 rfl (Nat.le_of_ble_eq_true rfl) dX7_programTwice_34 ⟨Nat.zero_le _, Nat.zero_le _⟩ hS (fun _ h => h) (fun _ _ h => h) (fun H locs hpo hS => ?_)
          obtain ⟨gh34, hz34, hT⟩ := hpo
          have hst34 := hz34.2
          have hz34 := eqv_eq hz34.1
          have hwf := wf_of hz34 hwf
          have hvis := vis_of hz34 hvis
          have hnow := nowOK_of hz34 hnow
          have r41_34 := hz34 h0 41 rfl
          refine lv_iload_n hx hb dX7_programTwice_37 rfl (lv_at hl 1 rfl) ?_
          refine lv_iload_n hx hb dX7_programTwice_38 rfl (lv_at hl 2 rfl) ?_
          refine w_ishr hx hb dX7_programTwice_39 (fun x39 => ?_)
          refine r_iconst hx hb dX7_programTwice_40 (by decide) (by decide) (fun x40 e40 => ?_)
          refine w_iand hx hb dX7_programTwice_41 (fun x41 => ?_)
          refine r_iconst hx hb dX7_programTwice_42 (by decide) (by decide) (fun x42 e42 => ?_)
          have J59 : ∀ (ls : Array Slot) (H : Heap) (locs : List Loc) (gh : Gh), (8 - y6_2.toInt) < ((n6 + 1 : Nat) : Int) → wf z gh → vis z gh v → nowOK (gh.1 h0) → TY z (zA z) gh H → va_S (zA z) s.heap H locs → lv_has ls 3 [(0, .ref h0), (1, .int p1), (2, .int y6_2)] → W p l e (rmF 8 222) s m ([.ref h0, .int p1] : List Value).toArray below meth c H locs 0 0 (MQ below (QcV z (fun H => WX z v H)) ([.ref h0, .int p1] : List Value).toArray s 0 0 (zA z)) (F0 m 59 ls []) := by
            intro ls H locs gh mf59_6 hwf hvis hnow hT hS hl
            refine r_iinc (lv' := fun v__ => [(2, .int v__), (0, .ref h0), (1, .int p1)]) hx hb dX7_programTwice_59 hl (k := 2) rfl (by decide) (fun _ => rfl) ⟨by decide, by decide⟩ (by omega) (by omega) (fun x59 ls e59 hl => ?_)
            refine lv_goto (tgt := 6) hx hb dX7_programTwice_62 (by decide) ?_
            exact ih6 ls _ _ x59 _ (by omega) (by omega) hwf hvis hnow hT hS (lv_sub hl [1, 2, 0] rfl)
          refine r_icmp_ne (tgt := 59) hx hb dX7_programTwice_43 (by decide) (fun c43 => ?_) (fun c43 => ?_)
          · exact J59 ls _ _ _ (by omega) hwf hvis hnow hT hS (lv_sub hl [0, 1, 2] rfl)
          · refine lv_aload_n hx hb dX7_programTwice_46 rfl (lv_at hl 0 rfl) ?_
            refine lv_aload_n hx hb dX7_programTwice_47 rfl (lv_at hl 0 rfl) ?_
            refine gt_Model_now hx hb hts ic_Model hown hK hT g0 (hts _ mw_4_71) dX7_programTwice_48 (fun q48 hq48 => ?_)
            refine r_bipush hx hb dX7_programTwice_51 rfl (fun x51 e51 => ?_)
            refine lv_iload_n hx hb dX7_programTwice_53 rfl (lv_at hl 2 rfl) ?_
            refine r_iadd hx hb dX7_programTwice_54 (by omega) (by omega) (fun x54 e54 => ?_)
            refine al_41 hx hb hK hT hq48 (by omega) (by omega) dX7_programTwice_55 (fun x55 i55 e55 => ?_)
            have n55 := ix_nat (i := x54) (by omega)
            refine cl_Vv (rest := []) hC hK hSK (c_X7_danceOn l z gh34 h0 (o0) g0 x55 hwf.2.2 hnow) k_X7_danceOn mw_5_88 ⟨rfl, rfl, Nat.le_of_ble_eq_true rfl, Nat.le_of_ble_eq_true rfl⟩ (rv_Model hK hT g0) hT rfl hl.1 rfl (Nat.le_of_ble_eq_true rfl) dX7_programTwice_56 ⟨Nat.zero_le _, Nat.zero_le _⟩ hS (fun _ h => h) (fun _ _ h => h) (fun H locs hpo hS => ?_)
            obtain ⟨gh56, hz56, hT⟩ := hpo
            have hst56 := hz56.2
            have hz56 := eqv_eq hz56.1
            have hwf := wf_of hz56 hwf
            have hvis := vis_of hz56 hvis
            have hnow := nowOK_of hz56 hnow
            have r41_56 := hz56 h0 41 rfl
            exact J59 ls _ _ _ (by omega) hwf hvis hnow hT hS (lv_sub hl [0, 1, 2] rfl)
  exact J6 (((8 - x4.toInt)).toNat + 1) ls _ _ x4 _ (by omega) (by omega) hwf hvis hnow hT hS (lv_sub hl [1, 2, 0] rfl)
theorem k_X7_again : cBV yX7_again cX7_again 6 (some .int) 1 := ⟨mw_5_160, mw_5_161, mw_1_8, mw_5_162, ⟨by decide, by decide, by decide⟩⟩
set_option maxHeartbeats 4000000 in
set_option maxRecDepth 100000 in
theorem c_X7_again (l : Launch) (z : Zt) (v : Nat → Nat → Int) (h0 o0 : Nat) (g0 : zG z h0 = (17, o0)) (p1 : Int32) : Met l yX7_again (uw yX7_again cX7_again 6 (some .int)) (rmF 9 244) (PcW z [.ref h0, .int p1] (fun H => WX z v H)) (QcI z (fun r H => WX z v H)) 0 0 (zA z) := by
  refine Met.ofW (cc := cX7_again) (maxL := 6) (ret := (some .int)) (by decide) rfl ?_
  intro p e s m args below meth c s₁ B hml hv
  obtain ⟨rfl, hW, hK, hSK⟩ := hv
  have hx := B.exec
  have hb := B.bytes
  have hr := B.returns
  have hts : ∀ w ∈ lw_ok, w.before ([.ref h0, .int p1] : List Value).toArray s = true := fun w hw => atoms_spec (ws := uw yX7_again cX7_again 6 (some .int)) B.pre w (List.mem_cons_of_mem _ hw)
  have hown : s.vm.findClass RX7 = some m.cls := findClass_of_methodNamed B.named
  have hlk := B.notSynchronized
  have hC : CallFix p m c cX7_again 6 s ([.ref h0, .int p1] : List Value).toArray lw_ok RX7 := ⟨hx, hb, hml, hown, hts⟩
  have hS : va_S (zA z) s.heap s.heap [] := va_S.rf
  have hl := lv_entry ([.ref h0, .int p1]) (n := 6) (Nat.le_of_ble_eq_true rfl)
  rw [lg_entry_eq]
  generalize (lg_sl ([.ref h0, .int p1]) ++ List.replicate (6 - (lg_sl ([.ref h0, .int p1])).length) Slot.unset).toArray = ls at hl ⊢
  have hl : lv_has ls 6 [(0, .ref h0), (1, .int p1)] := hl
  show W p l e (rmF 9 244) s m ([.ref h0, .int p1] : List Value).toArray below meth c s.heap [] 0 0 (MQ below (QcI z (fun r H => WX z v H)) ([.ref h0, .int p1] : List Value).toArray s 0 0 (zA z)) (F0 m 0 ls [])
  obtain ⟨gh, hwf, hvis, hT⟩ := hW
  have mx_p1 := i_mx p1
  refine lv_iload_n hx hb dX7_again_0 rfl (lv_at hl 1 rfl) ?_
  refine cl_Si (rest := []) hC hK hSK (c_X7_isPart l z gh p1) k_X7_isPart mw_5_152 ⟨rfl, rfl, Nat.le_of_ble_eq_true rfl, Nat.le_of_ble_eq_true rfl⟩ hT rfl hl.1 rfl (Nat.le_of_ble_eq_true rfl) dX7_again_1 ⟨Nat.zero_le _, Nat.zero_le _⟩ hS (fun _ h => h) (fun _ _ h => h) (fun r1 H locs hpo hS => ?_)
  obtain ⟨hT, u1_0, u1_1, u1_2⟩ := hpo
  refine r_if_ne (tgt := 9) hx hb dX7_again_4 (by decide) (fun c4 => ?_) (fun c4 => ?_)
  · refine lv_aload_n hx hb dX7_again_9 rfl (lv_at hl 0 rfl) ?_
    refine r_iconst hx hb dX7_again_10 (by decide) (by decide) (fun x10 e10 => ?_)
    refine cl_Vv (rest := []) hC hK hSK (c_X7_programTwice l z v h0 (o0) g0 x10) k_X7_programTwice mw_5_163 ⟨rfl, rfl, Nat.le_of_ble_eq_true rfl, Nat.le_of_ble_eq_true rfl⟩ (rv_Model hK hT g0) ⟨_, hwf, hvis, hT⟩ rfl hl.1 rfl (Nat.le_of_ble_eq_true rfl) dX7_again_11 ⟨Nat.zero_le _, Nat.zero_le _⟩ hS (fun _ h => h) (fun _ _ h => h) (fun H locs hpo hS => ?_)
    obtain ⟨gh11, hwf, hvis, hT⟩ := hpo
    refine lv_aload_n hx hb dX7_again_14 rfl (lv_at hl 0 rfl) ?_
    refine cl_Vi (rest := []) hC hK hSK (c_X7_round l z gh11 h0 (o0) g0) k_X7_round mw_5_0 ⟨rfl, rfl, Nat.le_of_ble_eq_true rfl, Nat.le_of_ble_eq_true rfl⟩ (rv_Model hK hT g0) hT rfl hl.1 rfl (Nat.le_of_ble_eq_true rfl) dX7_again_15 ⟨Nat.zero_le _, Nat.zero_le _⟩ hS (fun _ h => h) (fun _ _ h => h) (fun r15 H locs hpo hS => ?_)
    have hT := hpo
    refine cl_Si (rest := []) hC hK hSK (c_X7_bitsOf l z gh11 r15) k_X7_bitsOf mw_4_237 ⟨rfl, rfl, Nat.le_of_ble_eq_true rfl, Nat.le_of_ble_eq_true rfl⟩ hT rfl hl.1 rfl (Nat.le_of_ble_eq_true rfl) dX7_again_18 ⟨Nat.zero_le _, Nat.zero_le _⟩ hS (fun _ h => h) (fun _ _ h => h) (fun r18 H locs hpo hS => ?_)
    have hT := hpo
    refine lv_istore_n (lv' := [(2, .int r18), (0, .ref h0), (1, .int p1)]) hx hb dX7_again_21 rfl hl (by decide) rfl (fun ls hl => ?_)
    refine r_bipush hx hb dX7_again_22 rfl (fun x22 e22 => ?_)
    refine lv_istore_n (lv' := [(3, .int x22), (2, .int r18), (0, .ref h0), (1, .int p1)]) hx hb dX7_again_24 rfl hl (by decide) rfl (fun ls hl => ?_)
    refine r_iconst hx hb dX7_again_25 (by decide) (by decide) (fun x25 e25 => ?_)
    refine lv_istore (lv' := [(4, .int x25), (3, .int x22), (2, .int r18), (0, .ref h0), (1, .int p1)]) hx hb dX7_again_26 hl (by decide) rfl (fun ls hl => ?_)
    have J28 : ∀ (n28 : Nat) (ls : Array Slot) (H : Heap) (locs : List Loc) (y28_2 : Int32) (y28_3 : Int32) (y28_4 : Int32) (gh : Gh), (-4 ≤ y28_3.toInt ∧ y28_3.toInt ≤ 7) → (0 ≤ y28_4.toInt ∧ y28_4.toInt ≤ 8) → (8 - y28_4.toInt) < (n28 : Int) → wf z gh → vis z gh v → TY z (zA z) gh H → va_S (zA z) s.heap H locs → lv_has ls 6 [(0, .ref h0), (1, .int p1), (2, .int y28_2), (3, .int y28_3), (4, .int y28_4)] → W p l e (rmF 9 244) s m ([.ref h0, .int p1] : List Value).toArray below meth c H locs 0 0 (MQ below (QcI z (fun r H => WX z v H)) ([.ref h0, .int p1] : List Value).toArray s 0 0 (zA z)) (F0 m 28 ls []) := by
      intro n28
      induction n28 with
      | zero => intro ls H locs y28_2 y28_3 y28_4 gh j28_y28_3 j28_y28_4 mm28 hwf hvis hT hS hl; exfalso; omega
      | succ n28 ih28 =>
        intro ls H locs y28_2 y28_3 y28_4 gh j28_y28_3 j28_y28_4 mm28 hwf hvis hT hS hl
        refine lv_iload hx hb dX7_again_28 (lv_at hl 4 rfl) ?_
        refine lv_aload_n hx hb dX7_again_30 rfl (lv_at hl 0 rfl) ?_
        refine gt_Model_st hx hb hts ic_Model hown hK hT g0 (hts _ mw_4_70) dX7_again_31 (fun q31 hq31 => ?_)
        refine r_bipush hx hb dX7_again_34 rfl (fun x34 e34 => ?_)
        refine al_40 hx hb hK hT hq31 (by omega) (by omega) dX7_again_36 (fun x36 i36 e36 => ?_)
        have n36 := ix_nat (i := x34) (by omega)
        have f36 := b59_r31 (p40_e e36 (by omega)) (by omega)
        refine r_icmp_ge (tgt := 89) hx hb dX7_again_37 (by decide) (fun c37 => ?_) (fun c37 => ?_)
        · refine lv_iload_n hx hb dX7_again_89 rfl (lv_at hl 3 rfl) ?_
          refine r_bipush hx hb dX7_again_90 rfl (fun x90 e90 => ?_)
          refine r_icmp_ne (tgt := 100) hx hb dX7_again_92 (by decide) (fun c92 => ?_) (fun c92 => ?_)
          · refine lv_iload_n hx hb dX7_again_100 rfl (lv_at hl 1 rfl) ?_
            refine r_if_ne (tgt := 108) hx hb dX7_again_101 (by decide) (fun c101 => ?_) (fun c101 => ?_)
            · refine lv_iload_n hx hb dX7_again_108 rfl (lv_at hl 2 rfl) ?_
              exact rt_i hx hb hr hlk hS ⟨_, hwf, hvis, hT⟩ dX7_again_109
            · refine lv_iload_n hx hb dX7_again_104 rfl (lv_at hl 3 rfl) ?_
              refine lv_goto (tgt := 109) hx hb dX7_again_105 (by decide) ?_
              exact rt_i hx hb hr hlk hS ⟨_, hwf, hvis, hT⟩ dX7_again_109
          · refine r_bipush hx hb dX7_again_95 rfl (fun x95 e95 => ?_)
            refine lv_goto (tgt := 109) hx hb dX7_again_97 (by decide) ?_
            exact rt_i hx hb hr hlk hS ⟨_, hwf, hvis, hT⟩ dX7_again_109
        · refine lv_aload_n hx hb dX7_again_40 rfl (lv_at hl 0 rfl) ?_
          refine r_iconst hx hb dX7_again_41 (by decide) (by decide) (fun x41 e41 => ?_)
          refine lv_iload hx hb dX7_again_42 (lv_at hl 4 rfl) ?_
          refine r_shl1 hx hb dX7_again_44 (by omega) (by omega) (by omega) (fun x44 e44 g44 k44 => ?_)
          refine cl_Vv (rest := []) hC hK hSK (c_X7_programTwice l z v h0 (o0) g0 x44) k_X7_programTwice mw_5_163 ⟨rfl, rfl, Nat.le_of_ble_eq_true rfl, Nat.le_of_ble_eq_true rfl⟩ (rv_Model hK hT g0) ⟨_, hwf, hvis, hT⟩ rfl hl.1 rfl (Nat.le_of_ble_eq_true rfl) dX7_again_45 ⟨Nat.zero_le _, Nat.zero_le _⟩ hS (fun _ h => h) (fun _ _ h => h) (fun H locs hpo hS => ?_)
          obtain ⟨gh45, hwf, hvis, hT⟩ := hpo
          refine lv_aload_n hx hb dX7_again_48 rfl (lv_at hl 0 rfl) ?_
          refine cl_Vi (rest := []) hC hK hSK (c_X7_round l z gh45 h0 (o0) g0) k_X7_round mw_5_0 ⟨rfl, rfl, Nat.le_of_ble_eq_true rfl, Nat.le_of_ble_eq_true rfl⟩ (rv_Model hK hT g0) hT rfl hl.1 rfl (Nat.le_of_ble_eq_true rfl) dX7_again_49 ⟨Nat.zero_le _, Nat.zero_le _⟩ hS (fun _ h => h) (fun _ _ h => h) (fun r49 H locs hpo hS => ?_)
          have hT := hpo
          refine cl_Si (rest := []) hC hK hSK (c_X7_bitsOf l z gh45 r49) k_X7_bitsOf mw_4_237 ⟨rfl, rfl, Nat.le_of_ble_eq_true rfl, Nat.le_of_ble_eq_true rfl⟩ hT rfl hl.1 rfl (Nat.le_of_ble_eq_true rfl) dX7_again_52 ⟨Nat.zero_le _, Nat.zero_le _⟩ hS (fun _ h => h) (fun _ _ h => h) (fun r52 H locs hpo hS => ?_)
          have hT := hpo
          refine lv_istore (lv' := [(5, .int r52), (0, .ref h0), (1, .int p1), (2, .int y28_2), (3, .int y28_3), (4, .int y28_4)]) hx hb dX7_again_55 hl (by decide) rfl (fun ls hl => ?_)
          refine lv_iload hx hb dX7_again_57 (lv_at hl 0 rfl) ?_
          refine lv_iload_n hx hb dX7_again_59 rfl (lv_at hl 3 rfl) ?_
          have J69 : ∀ (ls : Array Slot) (H : Heap) (locs : List Loc) (t69_0 : Int32) (gh : Gh), (-4 ≤ t69_0.toInt ∧ t69_0.toInt ≤ 7) → (8 - y28_4.toInt) < ((n28 + 1 : Nat) : Int) → wf z gh → vis z gh v → TY z (zA z) gh H → va_S (zA z) s.heap H locs → lv_has ls 6 [(0, .ref h0), (1, .int p1), (2, .int y28_2), (3, .int y28_3), (4, .int y28_4), (5, .int r52)] → W p l e (rmF 9 244) s m ([.ref h0, .int p1] : List Value).toArray below meth c H locs 0 0 (MQ below (QcI z (fun r H => WX z v H)) ([.ref h0, .int p1] : List Value).toArray s 0 0 (zA z)) (F0 m 69 ls [.int t69_0]) := by
            intro ls H locs t69_0 gh j69_t69_0 mf69_28 hwf hvis hT hS hl
            refine lv_istore_n (lv' := [(3, .int t69_0), (0, .ref h0), (1, .int p1), (2, .int y28_2), (4, .int y28_4), (5, .int r52)]) hx hb dX7_again_69 rfl hl (by decide) rfl (fun ls hl => ?_)
            refine lv_iload hx hb dX7_again_70 (lv_at hl 5 rfl) ?_
            refine lv_iload_n hx hb dX7_again_72 rfl (lv_at hl 3 rfl) ?_
            have J82 : ∀ (ls : Array Slot) (H : Heap) (locs : List Loc) (t82_0 : Int32) (gh : Gh), (8 - y28_4.toInt) < ((n28 + 1 : Nat) : Int) → wf z gh → vis z gh v → TY z (zA z) gh H → va_S (zA z) s.heap H locs → lv_has ls 6 [(0, .ref h0), (1, .int p1), (2, .int y28_2), (3, .int t69_0), (4, .int y28_4), (5, .int r52)] → W p l e (rmF 9 244) s m ([.ref h0, .int p1] : List Value).toArray below meth c H locs 0 0 (MQ below (QcI z (fun r H => WX z v H)) ([.ref h0, .int p1] : List Value).toArray s 0 0 (zA z)) (F0 m 82 ls [.int t82_0]) := by
              intro ls H locs t82_0 gh mf82_28 hwf hvis hT hS hl
              refine lv_istore_n (lv' := [(2, .int t82_0), (0, .ref h0), (1, .int p1), (3, .int t69_0), (4, .int y28_4), (5, .int r52)]) hx hb dX7_again_82 rfl hl (by decide) rfl (fun ls hl => ?_)
              refine r_iinc (lv' := fun v__ => [(4, .int v__), (2, .int t82_0), (0, .ref h0), (1, .int p1), (3, .int t69_0), (5, .int r52)]) hx hb dX7_again_83 hl (k := 4) rfl (by decide) (fun _ => rfl) ⟨by decide, by decide⟩ (by omega) (by omega) (fun x83 ls e83 hl => ?_)
              refine lv_goto (tgt := 28) hx hb dX7_again_86 (by decide) ?_
              exact ih28 ls _ _ t82_0 t69_0 x83 _ (by omega) (by omega) (by omega) hwf hvis hT hS (lv_sub hl [2, 3, 1, 4, 0] rfl)
            refine r_icmp_le (tgt := 81) hx hb dX7_again_73 (by decide) (fun c73 => ?_) (fun c73 => ?_)
            · refine lv_iload_n hx hb dX7_again_81 rfl (lv_at hl 3 rfl) ?_
              exact J82 ls _ _ y28_2 _ (by omega) hwf hvis hT hS (lv_sub hl [1, 2, 3, 0, 4, 5] rfl)
            · refine lv_iload hx hb dX7_again_76 (lv_at hl 5 rfl) ?_
              refine lv_goto (tgt := 82) hx hb dX7_again_78 (by decide) ?_
              exact J82 ls _ _ r52 _ (by omega) hwf hvis hT hS (lv_sub hl [1, 2, 3, 0, 4, 5] rfl)
          refine r_icmp_le (tgt := 68) hx hb dX7_again_60 (by decide) (fun c60 => ?_) (fun c60 => ?_)
          · refine lv_iload_n hx hb dX7_again_68 rfl (lv_at hl 4 rfl) ?_
            exact J69 ls _ _ y28_3 _ (by omega) (by omega) hwf hvis hT hS (lv_sub hl [1, 2, 3, 4, 5, 0] rfl)
          · refine lv_iload hx hb dX7_again_63 (lv_at hl 5 rfl) ?_
            refine lv_goto (tgt := 69) hx hb dX7_again_65 (by decide) ?_
            exact J69 ls _ _ y28_4 _ (by omega) (by omega) hwf hvis hT hS (lv_sub hl [1, 2, 3, 4, 5, 0] rfl)
    exact J28 (((8 - x25.toInt)).toNat + 1) ls _ _ r18 x22 x25 _ (by omega) (by omega) (by omega) hwf hvis hT hS (lv_sub hl [3, 4, 2, 1, 0] rfl)
  · refine r_iconst hx hb dX7_again_7 (by decide) (by decide) (fun x7 e7 => ?_)
    exact rt_i hx hb hr hlk hS ⟨_, hwf, hvis, hT⟩ dX7_again_8
theorem k_X7_coins : cBV yX7_coins cX7_coins 5 (some .int) 1 := ⟨mw_5_168, mw_5_169, mw_1_8, mw_5_170, ⟨by decide, by decide, by decide⟩⟩
set_option maxHeartbeats 4000000 in
set_option maxRecDepth 100000 in
theorem c_X7_coins (l : Launch) (z : Zt) (v : Nat → Nat → Int) (h0 o0 : Nat) (g0 : zG z h0 = (17, o0)) (p1 : Int32) : Met l yX7_coins (uw yX7_coins cX7_coins 5 (some .int)) (rmF 9 244) (PcW z [.ref h0, .int p1] (fun H => WX z v H)) (QcI z (fun r H => WX z v H)) 0 0 (zA z) := by
  refine Met.ofW (cc := cX7_coins) (maxL := 5) (ret := (some .int)) (by decide) rfl ?_
  intro p e s m args below meth c s₁ B hml hv
  obtain ⟨rfl, hW, hK, hSK⟩ := hv
  have hx := B.exec
  have hb := B.bytes
  have hr := B.returns
  have hts : ∀ w ∈ lw_ok, w.before ([.ref h0, .int p1] : List Value).toArray s = true := fun w hw => atoms_spec (ws := uw yX7_coins cX7_coins 5 (some .int)) B.pre w (List.mem_cons_of_mem _ hw)
  have hown : s.vm.findClass RX7 = some m.cls := findClass_of_methodNamed B.named
  have hlk := B.notSynchronized
  have hC : CallFix p m c cX7_coins 5 s ([.ref h0, .int p1] : List Value).toArray lw_ok RX7 := ⟨hx, hb, hml, hown, hts⟩
  have hS : va_S (zA z) s.heap s.heap [] := va_S.rf
  have hl := lv_entry ([.ref h0, .int p1]) (n := 5) (Nat.le_of_ble_eq_true rfl)
  rw [lg_entry_eq]
  generalize (lg_sl ([.ref h0, .int p1]) ++ List.replicate (5 - (lg_sl ([.ref h0, .int p1])).length) Slot.unset).toArray = ls at hl ⊢
  have hl : lv_has ls 5 [(0, .ref h0), (1, .int p1)] := hl
  show W p l e (rmF 9 244) s m ([.ref h0, .int p1] : List Value).toArray below meth c s.heap [] 0 0 (MQ below (QcI z (fun r H => WX z v H)) ([.ref h0, .int p1] : List Value).toArray s 0 0 (zA z)) (F0 m 0 ls [])
  obtain ⟨gh, hwf, hvis, hT⟩ := hW
  have mx_p1 := i_mx p1
  refine lv_iload_n hx hb dX7_coins_0 rfl (lv_at hl 1 rfl) ?_
  refine r_i2l hx hb dX7_coins_1 (fun x1 e1 => ?_)
  refine r_lconst0 hx hb dX7_coins_2 (fun x2 e2 => ?_)
  refine r_iconst hx hb dX7_coins_3 (by decide) (by decide) (fun x3 e3 => ?_)
  refine lv_aload_n hx hb dX7_coins_4 rfl (lv_at hl 0 rfl) ?_
  refine gt_Model_men hx hb hts ic_Model hown hK hT g0 (hts _ mw_4_73) dX7_coins_5 (fun x5 i5 e5 g5 => ?_)
  refine r_shl1 hx hb dX7_coins_8 (by omega) (by omega) (by omega) (fun x8 e8 g8 k8 => ?_)
  refine r_iconst hx hb dX7_coins_9 (by decide) (by decide) (fun x9 e9 => ?_)
  refine r_isub hx hb dX7_coins_10 (by omega) (by omega) (fun x10 e10 => ?_)
  refine r_i2l hx hb dX7_coins_11 (fun x11 e11 => ?_)
  refine cl_Si (rest := []) hC hK hSK (c_X7_in l z gh x1 x2 x11) k_X7_in mw_4_154 ⟨rfl, rfl, Nat.le_of_ble_eq_true rfl, Nat.le_of_ble_eq_true rfl⟩ hT rfl hl.1 rfl (Nat.le_of_ble_eq_true rfl) dX7_coins_12 ⟨Nat.zero_le _, Nat.zero_le _⟩ hS (fun _ h => h) (fun _ _ h => h) (fun r12 H locs hpo hS => ?_)
  obtain ⟨hT, u12_0, u12_1⟩ := hpo
  refine r_if_ne (tgt := 20) hx hb dX7_coins_15 (by decide) (fun c15 => ?_) (fun c15 => ?_)
  · refine lv_aload_n hx hb dX7_coins_20 rfl (lv_at hl 0 rfl) ?_
    refine gt_Model_st hx hb hts ic_Model hown hK hT g0 (hts _ mw_4_70) dX7_coins_21 (fun q21 hq21 => ?_)
    refine r_bipush hx hb dX7_coins_24 rfl (fun x24 e24 => ?_)
    refine al_40 hx hb hK hT hq21 (by omega) (by omega) dX7_coins_26 (fun x26 i26 e26 => ?_)
    have n26 := ix_nat (i := x24) (by omega)
    have f26 := b59_r31 (p40_e e26 (by omega)) (by omega)
    refine r_iconst hx hb dX7_coins_27 (by decide) (by decide) (fun x27 e27 => ?_)
    refine r_icmp_le (tgt := 34) hx hb dX7_coins_28 (by decide) (fun c28 => ?_) (fun c28 => ?_)
    · refine r_ldc (1000000) rfl hx hb hts hown mw_5_171 dX7_coins_34 (fun x34 e34 => ?_)
      refine lv_istore_n (lv' := [(2, .int x34), (0, .ref h0), (1, .int p1)]) hx hb dX7_coins_36 rfl hl (by decide) rfl (fun ls hl => ?_)
      refine r_iconst hx hb dX7_coins_37 (by decide) (by decide) (fun x37 e37 => ?_)
      refine lv_istore_n (lv' := [(3, .int x37), (2, .int x34), (0, .ref h0), (1, .int p1)]) hx hb dX7_coins_38 rfl hl (by decide) rfl (fun ls hl => ?_)
      have J39 : ∀ (n39 : Nat) (ls : Array Slot) (H : Heap) (locs : List Loc) (y39_2 : Int32) (y39_3 : Int32) (gh : Gh), (0 ≤ y39_3.toInt ∧ y39_3.toInt ≤ 256) → (256 - y39_3.toInt) < (n39 : Int) → wf z gh → vis z gh v → TY z (zA z) gh H → va_S (zA z) s.heap H locs → lv_has ls 5 [(0, .ref h0), (1, .int p1), (2, .int y39_2), (3, .int y39_3)] → W p l e (rmF 9 244) s m ([.ref h0, .int p1] : List Value).toArray below meth c H locs 0 0 (MQ below (QcI z (fun r H => WX z v H)) ([.ref h0, .int p1] : List Value).toArray s 0 0 (zA z)) (F0 m 39 ls []) := by
        intro n39
        induction n39 with
        | zero => intro ls H locs y39_2 y39_3 gh j39_y39_3 mm39 hwf hvis hT hS hl; exfalso; omega
        | succ n39 ih39 =>
          intro ls H locs y39_2 y39_3 gh j39_y39_3 mm39 hwf hvis hT hS hl
          refine lv_iload_n hx hb dX7_coins_39 rfl (lv_at hl 3 rfl) ?_
          refine r_iconst hx hb dX7_coins_40 (by decide) (by decide) (fun x40 e40 => ?_)
          refine lv_aload_n hx hb dX7_coins_41 rfl (lv_at hl 0 rfl) ?_
          refine gt_Model_st hx hb hts ic_Model hown hK hT g0 (hts _ mw_4_70) dX7_coins_42 (fun q42 hq42 => ?_)
          refine r_bipush hx hb dX7_coins_45 rfl (fun x45 e45 => ?_)
          refine al_40 hx hb hK hT hq42 (by omega) (by omega) dX7_coins_47 (fun x47 i47 e47 => ?_)
          have n47 := ix_nat (i := x45) (by omega)
          have f47 := b59_r31 (p40_e e47 (by omega)) (by omega)
          refine r_shl1 hx hb dX7_coins_48 (by omega) (by omega) (by omega) (fun x48 e48 g48 k48 => ?_)
          refine r_icmp_ge (tgt := 103) hx hb dX7_coins_49 (by decide) (fun c49 => ?_) (fun c49 => ?_)
          · refine lv_iload_n hx hb dX7_coins_103 rfl (lv_at hl 2 rfl) ?_
            refine r_ldc (1000000) rfl hx hb hts hown mw_5_171 dX7_coins_104 (fun x104 e104 => ?_)
            refine r_icmp_ne (tgt := 114) hx hb dX7_coins_106 (by decide) (fun c106 => ?_) (fun c106 => ?_)
            · refine lv_iload_n hx hb dX7_coins_114 rfl (lv_at hl 2 rfl) ?_
              exact rt_i hx hb hr hlk hS ⟨_, hwf, hvis, hT⟩ dX7_coins_115
            · refine r_bipush hx hb dX7_coins_109 rfl (fun x109 e109 => ?_)
              refine lv_goto (tgt := 115) hx hb dX7_coins_111 (by decide) ?_
              exact rt_i hx hb hr hlk hS ⟨_, hwf, hvis, hT⟩ dX7_coins_115
          · refine lv_aload_n hx hb dX7_coins_52 rfl (lv_at hl 0 rfl) ?_
            refine lv_iload_n hx hb dX7_coins_53 rfl (lv_at hl 3 rfl) ?_
            refine cl_Vv (rest := []) hC hK hSK (c_X7_programTwice l z v h0 (o0) g0 y39_3) k_X7_programTwice mw_5_163 ⟨rfl, rfl, Nat.le_of_ble_eq_true rfl, Nat.le_of_ble_eq_true rfl⟩ (rv_Model hK hT g0) ⟨_, hwf, hvis, hT⟩ rfl hl.1 rfl (Nat.le_of_ble_eq_true rfl) dX7_coins_54 ⟨Nat.zero_le _, Nat.zero_le _⟩ hS (fun _ h => h) (fun _ _ h => h) (fun H locs hpo hS => ?_)
            obtain ⟨gh54, hwf, hvis, hT⟩ := hpo
            refine lv_iload_n hx hb dX7_coins_57 rfl (lv_at hl 1 rfl) ?_
            refine lv_aload_n hx hb dX7_coins_58 rfl (lv_at hl 0 rfl) ?_
            refine cl_Vi (rest := [.int p1]) hC hK hSK (c_X7_round l z gh54 h0 (o0) g0) k_X7_round mw_5_0 ⟨rfl, rfl, Nat.le_of_ble_eq_true rfl, Nat.le_of_ble_eq_true rfl⟩ (rv_Model hK hT g0) hT rfl hl.1 rfl (Nat.le_of_ble_eq_true rfl) dX7_coins_59 ⟨Nat.zero_le _, Nat.zero_le _⟩ hS (fun _ h => h) (fun _ _ h => h) (fun r59 H locs hpo hS => ?_)
            have hT := hpo
            refine r_iconst hx hb dX7_coins_62 (by decide) (by decide) (fun x62 e62 => ?_)
            refine w_ixor hx hb dX7_coins_63 (fun x63 => ?_)
            refine w_iand hx hb dX7_coins_64 (fun x64 => ?_)
            have J81 : ∀ (ls : Array Slot) (H : Heap) (locs : List Loc) (t81_0 : Int32) (gh : Gh), (0 ≤ t81_0.toInt ∧ t81_0.toInt ≤ 1) → (256 - y39_3.toInt) < ((n39 + 1 : Nat) : Int) → wf z gh → vis z gh v → TY z (zA z) gh H → va_S (zA z) s.heap H locs → lv_has ls 5 [(0, .ref h0), (1, .int p1), (2, .int y39_2), (3, .int y39_3)] → W p l e (rmF 9 244) s m ([.ref h0, .int p1] : List Value).toArray below meth c H locs 0 0 (MQ below (QcI z (fun r H => WX z v H)) ([.ref h0, .int p1] : List Value).toArray s 0 0 (zA z)) (F0 m 81 ls [.int t81_0]) := by
              intro ls H locs t81_0 gh j81_t81_0 mf81_39 hwf hvis hT hS hl
              refine lv_istore (lv' := [(4, .int t81_0), (0, .ref h0), (1, .int p1), (2, .int y39_2), (3, .int y39_3)]) hx hb dX7_coins_81 hl (by decide) rfl (fun ls hl => ?_)
              refine lv_iload hx hb dX7_coins_83 (lv_at hl 0 rfl) ?_
              have J96 : ∀ (ls : Array Slot) (H : Heap) (locs : List Loc) (t96_0 : Int32) (gh : Gh), (256 - y39_3.toInt) < ((n39 + 1 : Nat) : Int) → wf z gh → vis z gh v → TY z (zA z) gh H → va_S (zA z) s.heap H locs → lv_has ls 5 [(0, .ref h0), (1, .int p1), (2, .int y39_2), (3, .int y39_3), (4, .int t81_0)] → W p l e (rmF 9 244) s m ([.ref h0, .int p1] : List Value).toArray below meth c H locs 0 0 (MQ below (QcI z (fun r H => WX z v H)) ([.ref h0, .int p1] : List Value).toArray s 0 0 (zA z)) (F0 m 96 ls [.int t96_0]) := by
                intro ls H locs t96_0 gh mf96_39 hwf hvis hT hS hl
                refine lv_istore_n (lv' := [(2, .int t96_0), (0, .ref h0), (1, .int p1), (3, .int y39_3), (4, .int t81_0)]) hx hb dX7_coins_96 rfl hl (by decide) rfl (fun ls hl => ?_)
                refine r_iinc (lv' := fun v__ => [(3, .int v__), (2, .int t96_0), (0, .ref h0), (1, .int p1), (4, .int t81_0)]) hx hb dX7_coins_97 hl (k := 3) rfl (by decide) (fun _ => rfl) ⟨by decide, by decide⟩ (by omega) (by omega) (fun x97 ls e97 hl => ?_)
                refine lv_goto (tgt := 39) hx hb dX7_coins_100 (by decide) ?_
                exact ih39 ls _ _ t96_0 x97 _ (by omega) (by omega) hwf hvis hT hS (lv_sub hl [2, 3, 1, 0] rfl)
              refine r_if_eq (tgt := 95) hx hb dX7_coins_85 (by decide) (fun c85 => ?_) (fun c85 => ?_)
              · refine lv_iload_n hx hb dX7_coins_95 rfl (lv_at hl 3 rfl) ?_
                exact J96 ls _ _ y39_2 _ (by omega) hwf hvis hT hS (lv_sub hl [1, 2, 3, 4, 0] rfl)
              · refine lv_iload_n hx hb dX7_coins_88 rfl (lv_at hl 4 rfl) ?_
                refine cl_Si (rest := []) hC hK hSK (c_X7_bitsOf l z gh y39_3) k_X7_bitsOf mw_4_237 ⟨rfl, rfl, Nat.le_of_ble_eq_true rfl, Nat.le_of_ble_eq_true rfl⟩ hT rfl hl.1 rfl (Nat.le_of_ble_eq_true rfl) dX7_coins_89 ⟨Nat.zero_le _, Nat.zero_le _⟩ hS (fun _ h => h) (fun _ _ h => h) (fun r89 H locs hpo hS => ?_)
                have hT := hpo
                refine lv_goto (tgt := 96) hx hb dX7_coins_92 (by decide) ?_
                exact J96 ls _ _ r89 _ (by omega) hwf hvis hT hS (lv_sub hl [1, 2, 3, 4, 0] rfl)
            have J80 : ∀ (ls : Array Slot) (H : Heap) (locs : List Loc) (gh : Gh), (256 - y39_3.toInt) < ((n39 + 1 : Nat) : Int) → wf z gh → vis z gh v → TY z (zA z) gh H → va_S (zA z) s.heap H locs → lv_has ls 5 [(0, .ref h0), (1, .int p1), (2, .int y39_2), (3, .int y39_3)] → W p l e (rmF 9 244) s m ([.ref h0, .int p1] : List Value).toArray below meth c H locs 0 0 (MQ below (QcI z (fun r H => WX z v H)) ([.ref h0, .int p1] : List Value).toArray s 0 0 (zA z)) (F0 m 80 ls []) := by
              intro ls H locs gh mf80_39 hwf hvis hT hS hl
              refine r_iconst hx hb dX7_coins_80 (by decide) (by decide) (fun x80 e80 => ?_)
              exact J81 ls _ _ x80 _ (by omega) (by omega) hwf hvis hT hS (lv_sub hl [0, 1, 2, 3] rfl)
            refine r_if_ne (tgt := 80) hx hb dX7_coins_65 (by decide) (fun c65 => ?_) (fun c65 => ?_)
            · exact J80 ls _ _ _ (by omega) hwf hvis hT hS (lv_sub hl [0, 1, 2, 3] rfl)
            · refine lv_iload_n hx hb dX7_coins_68 rfl (lv_at hl 3 rfl) ?_
              refine cl_Si (rest := []) hC hK hSK (c_X7_bitsOf l z gh54 y39_3) k_X7_bitsOf mw_4_237 ⟨rfl, rfl, Nat.le_of_ble_eq_true rfl, Nat.le_of_ble_eq_true rfl⟩ hT rfl hl.1 rfl (Nat.le_of_ble_eq_true rfl) dX7_coins_69 ⟨Nat.zero_le _, Nat.zero_le _⟩ hS (fun _ h => h) (fun _ _ h => h) (fun r69 H locs hpo hS => ?_)
              have hT := hpo
              refine lv_iload_n hx hb dX7_coins_72 rfl (lv_at hl 2 rfl) ?_
              refine r_icmp_ge (tgt := 80) hx hb dX7_coins_73 (by decide) (fun c73 => ?_) (fun c73 => ?_)
              · exact J80 ls _ _ _ (by omega) hwf hvis hT hS (lv_sub hl [0, 1, 2, 3] rfl)
              · refine r_iconst hx hb dX7_coins_76 (by decide) (by decide) (fun x76 e76 => ?_)
                refine lv_goto (tgt := 81) hx hb dX7_coins_77 (by decide) ?_
                exact J81 ls _ _ x76 _ (by omega) (by omega) hwf hvis hT hS (lv_sub hl [0, 1, 2, 3] rfl)
      exact J39 (((256 - x37.toInt)).toNat + 1) ls _ _ x34 x37 _ (by omega) (by omega) hwf hvis hT hS (lv_sub hl [2, 3, 1, 0] rfl)
    · refine r_bipush hx hb dX7_coins_31 rfl (fun x31 e31 => ?_)
      exact rt_i hx hb hr hlk hS ⟨_, hwf, hvis, hT⟩ dX7_coins_33
  · refine r_iconst hx hb dX7_coins_18 (by decide) (by decide) (fun x18 e18 => ?_)
    exact rt_i hx hb hr hlk hS ⟨_, hwf, hvis, hT⟩ dX7_coins_19
theorem k_X7_findOdds : cBV yX7_findOdds cX7_findOdds 8 none 2 := ⟨mw_5_180, ms_3_15, mw_1_8, mw_5_181, ⟨by decide, by decide, by decide⟩⟩
set_option maxHeartbeats 4000000 in
set_option maxRecDepth 100000 in
theorem c_X7_findOdds (l : Launch) (z : Zt) (v : Nat → Nat → Int) (h0 o0 : Nat) (g0 : zG z h0 = (17, o0)) (p1 : Int32) (p2 : Int32) : Met l yX7_findOdds (uw yX7_findOdds cX7_findOdds 8 none) (rmF 9 243) (PcW z [.ref h0, .int p1, .int p2] (fun H => WX z v H)) (QcV z (fun H => WX z v H)) 0 0 (zA z) := by
  refine Met.ofW (cc := cX7_findOdds) (maxL := 8) (ret := none) (by decide) rfl ?_
  intro p e s m args below meth c s₁ B hml hv
  obtain ⟨rfl, hW, hK, hSK⟩ := hv
  have hx := B.exec
  have hb := B.bytes
  have hr := B.returns
  have hts : ∀ w ∈ lw_ok, w.before ([.ref h0, .int p1, .int p2] : List Value).toArray s = true := fun w hw => atoms_spec (ws := uw yX7_findOdds cX7_findOdds 8 none) B.pre w (List.mem_cons_of_mem _ hw)
  have hown : s.vm.findClass RX7 = some m.cls := findClass_of_methodNamed B.named
  have hlk := B.notSynchronized
  have hC : CallFix p m c cX7_findOdds 8 s ([.ref h0, .int p1, .int p2] : List Value).toArray lw_ok RX7 := ⟨hx, hb, hml, hown, hts⟩
  have hS : va_S (zA z) s.heap s.heap [] := va_S.rf
  have hl := lv_entry ([.ref h0, .int p1, .int p2]) (n := 8) (Nat.le_of_ble_eq_true rfl)
  rw [lg_entry_eq]
  generalize (lg_sl ([.ref h0, .int p1, .int p2]) ++ List.replicate (8 - (lg_sl ([.ref h0, .int p1, .int p2])).length) Slot.unset).toArray = ls at hl ⊢
  have hl : lv_has ls 8 [(0, .ref h0), (1, .int p1), (2, .int p2)] := hl
  show W p l e (rmF 9 243) s m ([.ref h0, .int p1, .int p2] : List Value).toArray below meth c s.heap [] 0 0 (MQ below (QcV z (fun H => WX z v H)) ([.ref h0, .int p1, .int p2] : List Value).toArray s 0 0 (zA z)) (F0 m 0 ls [])
  obtain ⟨gh, hwf, hvis, hT⟩ := hW
  have mx_p1 := i_mx p1
  have mx_p2 := i_mx p2
  refine lv_aload_n hx hb dX7_findOdds_0 rfl (lv_at hl 0 rfl) ?_
  refine r_lconst0 hx hb dX7_findOdds_1 (fun x1 e1 => ?_)
  refine pt_Model_roundSum hx hb hts ic_Model hown hK hT hS g0 (hts _ mw_4_89) dX7_findOdds_2 (fun H locs hT hS => ?_)
  refine lv_aload_n hx hb dX7_findOdds_5 rfl (lv_at hl 0 rfl) ?_
  refine r_lconst0 hx hb dX7_findOdds_6 (fun x6 e6 => ?_)
  refine pt_Model_allSum hx hb hts ic_Model hown hK hT hS g0 (hts _ mw_4_90) dX7_findOdds_7 (fun H locs hT hS => ?_)
  refine r_iconst hx hb dX7_findOdds_10 (by decide) (by decide) (fun x10 e10 => ?_)
  refine lv_istore_n (lv' := [(3, .int x10), (0, .ref h0), (1, .int p1), (2, .int p2)]) hx hb dX7_findOdds_11 rfl hl (by decide) rfl (fun ls hl => ?_)
  have J12 : ∀ (n12 : Nat) (ls : Array Slot) (H : Heap) (locs : List Loc) (y12_3 : Int32) (gh : Gh), (0 ≤ y12_3.toInt ∧ y12_3.toInt ≤ 256) → (256 - y12_3.toInt) < (n12 : Int) → wf z gh → vis z gh v → TY z (zA z) gh H → va_S (zA z) s.heap H locs → lv_has ls 8 [(0, .ref h0), (1, .int p1), (2, .int p2), (3, .int y12_3)] → W p l e (rmF 9 243) s m ([.ref h0, .int p1, .int p2] : List Value).toArray below meth c H locs 0 0 (MQ below (QcV z (fun H => WX z v H)) ([.ref h0, .int p1, .int p2] : List Value).toArray s 0 0 (zA z)) (F0 m 12 ls []) := by
    intro n12
    induction n12 with
    | zero => intro ls H locs y12_3 gh j12_y12_3 mm12 hwf hvis hT hS hl; exfalso; omega
    | succ n12 ih12 =>
      intro ls H locs y12_3 gh j12_y12_3 mm12 hwf hvis hT hS hl
      refine lv_iload_n hx hb dX7_findOdds_12 rfl (lv_at hl 3 rfl) ?_
      refine r_iconst hx hb dX7_findOdds_13 (by decide) (by decide) (fun x13 e13 => ?_)
      refine lv_aload_n hx hb dX7_findOdds_14 rfl (lv_at hl 0 rfl) ?_
      refine gt_Model_men hx hb hts ic_Model hown hK hT g0 (hts _ mw_4_73) dX7_findOdds_15 (fun x15 i15 e15 g15 => ?_)
      refine r_shl1 hx hb dX7_findOdds_18 (by omega) (by omega) (by omega) (fun x18 e18 g18 k18 => ?_)
      refine r_icmp_ge (tgt := 164) hx hb dX7_findOdds_19 (by decide) (fun c19 => ?_) (fun c19 => ?_)
      · exact rt_v hx hb hr hlk hS ⟨_, hwf, hvis, hT⟩ dX7_findOdds_164
      · refine r_lconst1 hx hb dX7_findOdds_22 (fun x22 e22 => ?_)
        refine lv_lstore (lv' := [(4, .long x22), (0, .ref h0), (1, .int p1), (2, .int p2), (3, .int y12_3)]) hx hb dX7_findOdds_23 hl (by decide) rfl (fun ls hl => ?_)
        refine lv_aload_n hx hb dX7_findOdds_25 rfl (lv_at hl 1 rfl) ?_
        refine cl_Vv (rest := []) hC hK hSK (c_X7_starts l z gh h0 (o0) g0 hwf) k_X7_starts mw_4_229 ⟨rfl, rfl, Nat.le_of_ble_eq_true rfl, Nat.le_of_ble_eq_true rfl⟩ (rv_Model hK hT g0) hT rfl hl.1 rfl (Nat.le_of_ble_eq_true rfl) dX7_findOdds_26 ⟨Nat.zero_le _, Nat.zero_le _⟩ hS (fun _ h => h) (fun _ _ h => h) (fun H locs hpo hS => ?_)
        obtain ⟨gh26, hz26, hst26, hnow, hT⟩ := hpo
        have hwf := wf_ne hz26 hwf
        have hvis := vis_ne hz26 hvis
        have r41_26 := hz26 h0 41 (by decide) (by decide)
        refine r_iconst hx hb dX7_findOdds_29 (by decide) (by decide) (fun x29 e29 => ?_)
        refine lv_istore (lv' := [(6, .int x29), (4, .long x22), (0, .ref h0), (1, .int p1), (2, .int p2), (3, .int y12_3)]) hx hb dX7_findOdds_30 hl (by decide) rfl (fun ls hl => ?_)
        have J32 : ∀ (n32 : Nat) (ls : Array Slot) (H : Heap) (locs : List Loc) (y32_4 : Int64) (y32_6 : Int32) (gh : Gh), (0 ≤ y32_6.toInt ∧ y32_6.toInt ≤ 5) → (256 - y12_3.toInt) < ((n12 + 1 : Nat) : Int) → (5 - y32_6.toInt) < (n32 : Int) → wf z gh → vis z gh v → nowOK (gh.1 h0) → TY z (zA z) gh H → va_S (zA z) s.heap H locs → lv_has ls 8 [(0, .ref h0), (1, .int p1), (2, .int p2), (3, .int y12_3), (4, .long y32_4), (6, .int y32_6)] → W p l e (rmF 9 243) s m ([.ref h0, .int p1, .int p2] : List Value).toArray below meth c H locs 0 0 (MQ below (QcV z (fun H => WX z v H)) ([.ref h0, .int p1, .int p2] : List Value).toArray s 0 0 (zA z)) (F0 m 32 ls []) := by
          intro n32
          induction n32 with
          | zero => intro ls H locs y32_4 y32_6 gh j32_y32_6 mf32_12 mm32 hwf hvis hnow hT hS hl; exfalso; omega
          | succ n32 ih32 =>
            intro ls H locs y32_4 y32_6 gh j32_y32_6 mf32_12 mm32 hwf hvis hnow hT hS hl
            refine lv_iload hx hb dX7_findOdds_32 (lv_at hl 5 rfl) ?_
            refine lv_aload_n hx hb dX7_findOdds_34 rfl (lv_at hl 0 rfl) ?_
            refine gt_Model_men hx hb hts ic_Model hown hK hT g0 (hts _ mw_4_73) dX7_findOdds_35 (fun x35 i35 e35 g35 => ?_)
            refine r_icmp_ge (tgt := 107) hx hb dX7_findOdds_38 (by decide) (fun c38 => ?_) (fun c38 => ?_)
            · refine lv_aload_n hx hb dX7_findOdds_107 rfl (lv_at hl 0 rfl) ?_
              refine cl_Vv (rest := []) hC hK hSK (c_X7_programGoes l z gh h0 (o0) g0 hwf.2.2 hnow) k_X7_programGoes mw_5_182 ⟨rfl, rfl, Nat.le_of_ble_eq_true rfl, Nat.le_of_ble_eq_true rfl⟩ (rv_Model hK hT g0) hT rfl hl.1 rfl (Nat.le_of_ble_eq_true rfl) dX7_findOdds_108 ⟨Nat.zero_le _, Nat.zero_le _⟩ hS (fun _ h => h) (fun _ _ h => h) (fun H locs hpo hS => ?_)
              obtain ⟨gh108, hz108, hT⟩ := hpo
              have hst108 := hz108.2
              have hz108 := eqv_eq hz108.1
              have hwf := wf_of hz108 hwf
              have hvis := vis_of hz108 hvis
              have hnow := nowOK_of hz108 hnow
              have r41_108 := hz108 h0 41 rfl
              refine lv_aload_n hx hb dX7_findOdds_111 rfl (lv_at hl 0 rfl) ?_
              refine lv_dup hx hb dX7_findOdds_112 rfl ?_
              refine gt_Model_roundSum hx hb hts ic_Model hown hK hT g0 (hts _ mw_4_89) dX7_findOdds_113 (fun x113 => ?_)
              refine lv_aload_n hx hb dX7_findOdds_116 rfl (lv_at hl 0 rfl) ?_
              refine cl_Vi (rest := [.long x113, .ref h0]) hC hK hSK (c_X7_round l z gh108 h0 (o0) g0) k_X7_round mw_5_0 ⟨rfl, rfl, Nat.le_of_ble_eq_true rfl, Nat.le_of_ble_eq_true rfl⟩ (rv_Model hK hT g0) hT rfl hl.1 rfl (Nat.le_of_ble_eq_true rfl) dX7_findOdds_117 ⟨Nat.zero_le _, Nat.zero_le _⟩ hS (fun _ h => h) (fun _ _ h => h) (fun r117 H locs hpo hS => ?_)
              have hT := hpo
              refine lv_iload_n hx hb dX7_findOdds_120 rfl (lv_at hl 2 rfl) ?_
              refine w_ishr hx hb dX7_findOdds_121 (fun x121 => ?_)
              refine r_iconst hx hb dX7_findOdds_122 (by decide) (by decide) (fun x122 e122 => ?_)
              refine w_iand hx hb dX7_findOdds_123 (fun x123 => ?_)
              refine r_iconst hx hb dX7_findOdds_124 (by decide) (by decide) (fun x124 e124 => ?_)
              have J134 : ∀ (ls : Array Slot) (H : Heap) (locs : List Loc) (t134_2 : Int64) (gh : Gh), (256 - y12_3.toInt) < ((n12 + 1 : Nat) : Int) → wf z gh → vis z gh v → nowOK (gh.1 h0) → TY z (zA z) gh H → va_S (zA z) s.heap H locs → lv_has ls 8 [(0, .ref h0), (1, .int p1), (2, .int p2), (3, .int y12_3), (4, .long y32_4), (6, .int y32_6)] → W p l e (rmF 9 243) s m ([.ref h0, .int p1, .int p2] : List Value).toArray below meth c H locs 0 0 (MQ below (QcV z (fun H => WX z v H)) ([.ref h0, .int p1, .int p2] : List Value).toArray s 0 0 (zA z)) (F0 m 134 ls [.long t134_2, .long x113, .ref h0]) := by
                intro ls H locs t134_2 gh mf134_12 hwf hvis hnow hT hS hl
                refine w_ladd hx hb dX7_findOdds_134 (fun x134 => ?_)
                refine pt_Model_roundSum hx hb hts ic_Model hown hK hT hS g0 (hts _ mw_4_89) dX7_findOdds_135 (fun H locs hT hS => ?_)
                refine lv_aload_n hx hb dX7_findOdds_138 rfl (lv_at hl 0 rfl) ?_
                refine lv_dup hx hb dX7_findOdds_139 rfl ?_
                refine gt_Model_allSum hx hb hts ic_Model hown hK hT g0 (hts _ mw_4_90) dX7_findOdds_140 (fun x140 => ?_)
                refine lv_lload hx hb dX7_findOdds_143 (lv_at hl 4 rfl) ?_
                refine lv_aload_n hx hb dX7_findOdds_145 rfl (lv_at hl 0 rfl) ?_
                refine cl_Vi (rest := [.long y32_4, .long x140, .ref h0]) hC hK hSK (c_X7_round l z gh h0 (o0) g0) k_X7_round mw_5_0 ⟨rfl, rfl, Nat.le_of_ble_eq_true rfl, Nat.le_of_ble_eq_true rfl⟩ (rv_Model hK hT g0) hT rfl hl.1 rfl (Nat.le_of_ble_eq_true rfl) dX7_findOdds_146 ⟨Nat.zero_le _, Nat.zero_le _⟩ hS (fun _ h => h) (fun _ _ h => h) (fun r146 H locs hpo hS => ?_)
                have hT := hpo
                refine cl_Si (rest := [.long y32_4, .long x140, .ref h0]) hC hK hSK (c_X7_bitsOf l z gh r146) k_X7_bitsOf mw_4_237 ⟨rfl, rfl, Nat.le_of_ble_eq_true rfl, Nat.le_of_ble_eq_true rfl⟩ hT rfl hl.1 rfl (Nat.le_of_ble_eq_true rfl) dX7_findOdds_149 ⟨Nat.zero_le _, Nat.zero_le _⟩ hS (fun _ h => h) (fun _ _ h => h) (fun r149 H locs hpo hS => ?_)
                have hT := hpo
                refine r_i2l hx hb dX7_findOdds_152 (fun x152 e152 => ?_)
                refine w_lmul hx hb dX7_findOdds_153 (fun x153 => ?_)
                refine w_ladd hx hb dX7_findOdds_154 (fun x154 => ?_)
                refine pt_Model_allSum hx hb hts ic_Model hown hK hT hS g0 (hts _ mw_4_90) dX7_findOdds_155 (fun H locs hT hS => ?_)
                refine r_iinc (lv' := fun v__ => [(3, .int v__), (0, .ref h0), (1, .int p1), (2, .int p2), (4, .long y32_4), (6, .int y32_6)]) hx hb dX7_findOdds_158 hl (k := 3) rfl (by decide) (fun _ => rfl) ⟨by decide, by decide⟩ (by omega) (by omega) (fun x158 ls e158 hl => ?_)
                refine lv_goto (tgt := 12) hx hb dX7_findOdds_161 (by decide) ?_
                exact ih12 ls _ _ x158 _ (by omega) (by omega) hwf hvis hT hS (lv_sub hl [1, 2, 3, 0] rfl)
              refine r_icmp_ne (tgt := 133) hx hb dX7_findOdds_125 (by decide) (fun c125 => ?_) (fun c125 => ?_)
              · refine r_lconst0 hx hb dX7_findOdds_133 (fun x133 e133 => ?_)
                exact J134 ls _ _ x133 _ (by omega) hwf hvis hnow hT hS (lv_sub hl [0, 1, 2, 3, 4, 5] rfl)
              · refine lv_lload hx hb dX7_findOdds_128 (lv_at hl 4 rfl) ?_
                refine lv_goto (tgt := 134) hx hb dX7_findOdds_130 (by decide) ?_
                exact J134 ls _ _ y32_4 _ (by omega) hwf hvis hnow hT hS (lv_sub hl [0, 1, 2, 3, 4, 5] rfl)
            · refine lv_iload_n hx hb dX7_findOdds_41 rfl (lv_at hl 3 rfl) ?_
              refine lv_iload hx hb dX7_findOdds_42 (lv_at hl 5 rfl) ?_
              refine w_ishr hx hb dX7_findOdds_44 (fun x44 => ?_)
              refine r_iconst hx hb dX7_findOdds_45 (by decide) (by decide) (fun x45 e45 => ?_)
              refine w_iand hx hb dX7_findOdds_46 (fun x46 => ?_)
              refine r_iconst hx hb dX7_findOdds_47 (by decide) (by decide) (fun x47 e47 => ?_)
              have J56 : ∀ (ls : Array Slot) (H : Heap) (locs : List Loc) (t56_0 : Int32) (gh : Gh), (0 ≤ t56_0.toInt ∧ t56_0.toInt ≤ 1) → (256 - y12_3.toInt) < ((n12 + 1 : Nat) : Int) → (5 - y32_6.toInt) < ((n32 + 1 : Nat) : Int) → wf z gh → vis z gh v → nowOK (gh.1 h0) → TY z (zA z) gh H → va_S (zA z) s.heap H locs → lv_has ls 8 [(0, .ref h0), (1, .int p1), (2, .int p2), (3, .int y12_3), (4, .long y32_4), (6, .int y32_6)] → W p l e (rmF 9 243) s m ([.ref h0, .int p1, .int p2] : List Value).toArray below meth c H locs 0 0 (MQ below (QcV z (fun H => WX z v H)) ([.ref h0, .int p1, .int p2] : List Value).toArray s 0 0 (zA z)) (F0 m 56 ls [.int t56_0]) := by
                intro ls H locs t56_0 gh j56_t56_0 mf56_12 mf56_32 hwf hvis hnow hT hS hl
                refine lv_istore (lv' := [(7, .int t56_0), (0, .ref h0), (1, .int p1), (2, .int p2), (3, .int y12_3), (4, .long y32_4), (6, .int y32_6)]) hx hb dX7_findOdds_56 hl (by decide) rfl (fun ls hl => ?_)
                refine lv_lload hx hb dX7_findOdds_58 (lv_at hl 5 rfl) ?_
                refine lv_iload hx hb dX7_findOdds_60 (lv_at hl 0 rfl) ?_
                have J75 : ∀ (ls : Array Slot) (H : Heap) (locs : List Loc) (t75_1 : Int64) (gh : Gh), (256 - y12_3.toInt) < ((n12 + 1 : Nat) : Int) → (5 - y32_6.toInt) < ((n32 + 1 : Nat) : Int) → wf z gh → vis z gh v → nowOK (gh.1 h0) → TY z (zA z) gh H → va_S (zA z) s.heap H locs → lv_has ls 8 [(0, .ref h0), (1, .int p1), (2, .int p2), (3, .int y12_3), (4, .long y32_4), (6, .int y32_6), (7, .int t56_0)] → W p l e (rmF 9 243) s m ([.ref h0, .int p1, .int p2] : List Value).toArray below meth c H locs 0 0 (MQ below (QcV z (fun H => WX z v H)) ([.ref h0, .int p1, .int p2] : List Value).toArray s 0 0 (zA z)) (F0 m 75 ls [.long t75_1, .long y32_4]) := by
                  intro ls H locs t75_1 gh mf75_12 mf75_32 hwf hvis hnow hT hS hl
                  refine w_lmul hx hb dX7_findOdds_75 (fun x75 => ?_)
                  refine lv_lstore (lv' := [(4, .long x75), (0, .ref h0), (1, .int p1), (2, .int p2), (3, .int y12_3), (6, .int y32_6), (7, .int t56_0)]) hx hb dX7_findOdds_76 hl (by decide) rfl (fun ls hl => ?_)
                  refine lv_aload_n hx hb dX7_findOdds_78 rfl (lv_at hl 1 rfl) ?_
                  refine lv_iload hx hb dX7_findOdds_79 (lv_at hl 5 rfl) ?_
                  refine r_iconst hx hb dX7_findOdds_81 (by decide) (by decide) (fun x81 e81 => ?_)
                  refine lv_iload hx hb dX7_findOdds_82 (lv_at hl 6 rfl) ?_
                  have J98 : ∀ (ls : Array Slot) (H : Heap) (locs : List Loc) (t98_3 : Int32) (gh : Gh), (0 ≤ t98_3.toInt ∧ t98_3.toInt ≤ 9) → (256 - y12_3.toInt) < ((n12 + 1 : Nat) : Int) → (5 - y32_6.toInt) < ((n32 + 1 : Nat) : Int) → wf z gh → vis z gh v → nowOK (gh.1 h0) → TY z (zA z) gh H → va_S (zA z) s.heap H locs → lv_has ls 8 [(0, .ref h0), (1, .int p1), (2, .int p2), (3, .int y12_3), (4, .long x75), (6, .int y32_6), (7, .int t56_0)] → W p l e (rmF 9 243) s m ([.ref h0, .int p1, .int p2] : List Value).toArray below meth c H locs 0 0 (MQ below (QcV z (fun H => WX z v H)) ([.ref h0, .int p1, .int p2] : List Value).toArray s 0 0 (zA z)) (F0 m 98 ls [.int t98_3, .int x81, .int y32_6, .ref h0]) := by
                    intro ls H locs t98_3 gh j98_t98_3 mf98_12 mf98_32 hwf hvis hnow hT hS hl
                    refine cl_Vv (rest := []) hC hK hSK (c_X7_becomesOf l z gh h0 (o0) g0 y32_6 x81 t98_3 (by omega) (by omega) (by omega)) k_X7_becomesOf mw_5_100 ⟨rfl, rfl, Nat.le_of_ble_eq_true rfl, Nat.le_of_ble_eq_true rfl⟩ (rv_Model hK hT g0) hT rfl hl.1 rfl (Nat.le_of_ble_eq_true rfl) dX7_findOdds_98 ⟨Nat.zero_le _, Nat.zero_le _⟩ hS (fun _ h => h) (fun _ _ h => h) (fun H locs hpo hS => ?_)
                    obtain ⟨gh98, hz98, hT⟩ := hpo
                    have hst98 := hz98.2
                    have hz98 := eqv_eq hz98.1
                    have hwf := wf_of hz98 hwf
                    have hvis := vis_of hz98 hvis
                    have hnow := nowOK_of hz98 hnow
                    have r41_98 := hz98 h0 41 rfl
                    refine r_iinc (lv' := fun v__ => [(6, .int v__), (0, .ref h0), (1, .int p1), (2, .int p2), (3, .int y12_3), (4, .long x75), (7, .int t56_0)]) hx hb dX7_findOdds_101 hl (k := 5) rfl (by decide) (fun _ => rfl) ⟨by decide, by decide⟩ (by omega) (by omega) (fun x101 ls e101 hl => ?_)
                    refine lv_goto (tgt := 32) hx hb dX7_findOdds_104 (by decide) ?_
                    exact ih32 ls _ _ x75 x101 _ (by omega) (by omega) (by omega) hwf hvis hnow hT hS (lv_sub hl [1, 2, 3, 4, 5, 0] rfl)
                  refine r_if_eq (tgt := 91) hx hb dX7_findOdds_84 (by decide) (fun c84 => ?_) (fun c84 => ?_)
                  · refine lv_aload_n hx hb dX7_findOdds_91 rfl (lv_at hl 1 rfl) ?_
                    refine lv_iload hx hb dX7_findOdds_92 (lv_at hl 5 rfl) ?_
                    refine r_iconst hx hb dX7_findOdds_94 (by decide) (by decide) (fun x94 e94 => ?_)
                    refine cl_Vi (rest := [.int x81, .int y32_6, .ref h0]) hC hK hSK (c_X7_of l z gh h0 (o0) g0 y32_6 x94 (by omega) (by omega) hwf.2.2) k_X7_of mw_5_15 ⟨rfl, rfl, Nat.le_of_ble_eq_true rfl, Nat.le_of_ble_eq_true rfl⟩ (rv_Model hK hT g0) hT rfl hl.1 rfl (Nat.le_of_ble_eq_true rfl) dX7_findOdds_95 ⟨Nat.zero_le _, Nat.zero_le _⟩ hS (fun _ h => h) (fun _ _ h => h) (fun r95 H locs hpo hS => ?_)
                    obtain ⟨hT, u95_0, u95_1⟩ := hpo
                    exact J98 ls _ _ r95 _ (by omega) (by omega) (by omega) hwf hvis hnow hT hS (lv_sub hl [1, 2, 3, 4, 0, 5, 6] rfl)
                  · refine r_iconst hx hb dX7_findOdds_87 (by decide) (by decide) (fun x87 e87 => ?_)
                    refine lv_goto (tgt := 98) hx hb dX7_findOdds_88 (by decide) ?_
                    exact J98 ls _ _ x87 _ (by omega) (by omega) (by omega) hwf hvis hnow hT hS (lv_sub hl [1, 2, 3, 4, 0, 5, 6] rfl)
                refine r_if_eq (tgt := 70) hx hb dX7_findOdds_62 (by decide) (fun c62 => ?_) (fun c62 => ?_)
                · refine r_bipush hx hb dX7_findOdds_70 rfl (fun x70 e70 => ?_)
                  refine lv_iload_n hx hb dX7_findOdds_72 rfl (lv_at hl 2 rfl) ?_
                  refine w_isub hx hb dX7_findOdds_73 (fun x73 => ?_)
                  refine r_i2l hx hb dX7_findOdds_74 (fun x74 e74 => ?_)
                  exact J75 ls _ _ x74 _ (by omega) (by omega) hwf hvis hnow hT hS (lv_sub hl [1, 2, 3, 4, 5, 6, 0] rfl)
                · refine lv_iload_n hx hb dX7_findOdds_65 rfl (lv_at hl 2 rfl) ?_
                  refine r_i2l hx hb dX7_findOdds_66 (fun x66 e66 => ?_)
                  refine lv_goto (tgt := 75) hx hb dX7_findOdds_67 (by decide) ?_
                  exact J75 ls _ _ x66 _ (by omega) (by omega) hwf hvis hnow hT hS (lv_sub hl [1, 2, 3, 4, 5, 6, 0] rfl)
              refine r_icmp_ne (tgt := 55) hx hb dX7_findOdds_48 (by decide) (fun c48 => ?_) (fun c48 => ?_)
              · refine r_iconst hx hb dX7_findOdds_55 (by decide) (by decide) (fun x55 e55 => ?_)
                exact J56 ls _ _ x55 _ (by omega) (by omega) (by omega) hwf hvis hnow hT hS (lv_sub hl [0, 1, 2, 3, 4, 5] rfl)
              · refine r_iconst hx hb dX7_findOdds_51 (by decide) (by decide) (fun x51 e51 => ?_)
                refine lv_goto (tgt := 56) hx hb dX7_findOdds_52 (by decide) ?_
                exact J56 ls _ _ x51 _ (by omega) (by omega) (by omega) hwf hvis hnow hT hS (lv_sub hl [0, 1, 2, 3, 4, 5] rfl)
        exact J32 (((5 - x29.toInt)).toNat + 1) ls _ _ x22 x29 _ (by omega) (by omega) (by omega) hwf hvis hnow hT hS (lv_sub hl [2, 3, 4, 5, 1, 0] rfl)
  exact J12 (((256 - x10.toInt)).toNat + 1) ls _ _ x10 _ (by omega) (by omega) hwf hvis hT hS (lv_sub hl [1, 2, 3, 0] rfl)
theorem k_X7_luck : cBV yX7_luck cX7_luck 4 (some .long) 3 := ⟨mw_5_173, mw_5_174, mw_1_8, mw_5_175, ⟨by decide, by decide, by decide⟩⟩
set_option maxHeartbeats 4000000 in
set_option maxRecDepth 100000 in
theorem c_X7_luck (l : Launch) (z : Zt) (v : Nat → Nat → Int) (h0 o0 : Nat) (g0 : zG z h0 = (17, o0)) (p1 : Int32) (p2 : Int32) (p3 : Int32) : Met l yX7_luck (uw yX7_luck cX7_luck 4 (some .long)) (rmF 10 270) (PcW z [.ref h0, .int p1, .int p2, .int p3] (fun H => WX z v H)) (QcL z (fun r H => WX z v H)) 0 0 (zA z) := by
  refine Met.ofW (cc := cX7_luck) (maxL := 4) (ret := (some .long)) (by decide) rfl ?_
  intro p e s m args below meth c s₁ B hml hv
  obtain ⟨rfl, hW, hK, hSK⟩ := hv
  have hx := B.exec
  have hb := B.bytes
  have hr := B.returns
  have hts : ∀ w ∈ lw_ok, w.before ([.ref h0, .int p1, .int p2, .int p3] : List Value).toArray s = true := fun w hw => atoms_spec (ws := uw yX7_luck cX7_luck 4 (some .long)) B.pre w (List.mem_cons_of_mem _ hw)
  have hown : s.vm.findClass RX7 = some m.cls := findClass_of_methodNamed B.named
  have hlk := B.notSynchronized
  have hC : CallFix p m c cX7_luck 4 s ([.ref h0, .int p1, .int p2, .int p3] : List Value).toArray lw_ok RX7 := ⟨hx, hb, hml, hown, hts⟩
  have hS : va_S (zA z) s.heap s.heap [] := va_S.rf
  have hl := lv_entry ([.ref h0, .int p1, .int p2, .int p3]) (n := 4) (Nat.le_of_ble_eq_true rfl)
  rw [lg_entry_eq]
  generalize (lg_sl ([.ref h0, .int p1, .int p2, .int p3]) ++ List.replicate (4 - (lg_sl ([.ref h0, .int p1, .int p2, .int p3])).length) Slot.unset).toArray = ls at hl ⊢
  have hl : lv_has ls 4 [(0, .ref h0), (1, .int p1), (2, .int p2), (3, .int p3)] := hl
  show W p l e (rmF 10 270) s m ([.ref h0, .int p1, .int p2, .int p3] : List Value).toArray below meth c s.heap [] 0 0 (MQ below (QcL z (fun r H => WX z v H)) ([.ref h0, .int p1, .int p2, .int p3] : List Value).toArray s 0 0 (zA z)) (F0 m 0 ls [])
  obtain ⟨gh, hwf, hvis, hT⟩ := hW
  have mx_p1 := i_mx p1
  have mx_p2 := i_mx p2
  have mx_p3 := i_mx p3
  refine lv_iload_n hx hb dX7_luck_0 rfl (lv_at hl 1 rfl) ?_
  refine r_i2l hx hb dX7_luck_1 (fun x1 e1 => ?_)
  refine r_lconst0 hx hb dX7_luck_2 (fun x2 e2 => ?_)
  refine r_ldc2 (10) rfl hx hb hts hown mw_5_176 dX7_luck_3 (fun x3 e3 => ?_)
  refine cl_Si (rest := []) hC hK hSK (c_X7_in l z gh x1 x2 x3) k_X7_in mw_4_154 ⟨rfl, rfl, Nat.le_of_ble_eq_true rfl, Nat.le_of_ble_eq_true rfl⟩ hT rfl hl.1 rfl (Nat.le_of_ble_eq_true rfl) dX7_luck_6 ⟨Nat.zero_le _, Nat.zero_le _⟩ hS (fun _ h => h) (fun _ _ h => h) (fun r6 H locs hpo hS => ?_)
  obtain ⟨hT, u6_0, u6_1⟩ := hpo
  refine r_if_eq (tgt := 27) hx hb dX7_luck_9 (by decide) (fun c9 => ?_) (fun c9 => ?_)
  · refine r_ldc2 (-1) rfl hx hb hts hown mw_5_177 dX7_luck_27 (fun x27 e27 => ?_)
    exact rt_l hx hb hr hlk hS ⟨_, hwf, hvis, hT⟩ dX7_luck_30
  · refine lv_aload_n hx hb dX7_luck_12 rfl (lv_at hl 0 rfl) ?_
    refine lv_iload_n hx hb dX7_luck_13 rfl (lv_at hl 2 rfl) ?_
    refine cl_Vi (rest := []) hC hK hSK (c_X7_isOne l z gh h0 (o0) g0 p2) k_X7_isOne mw_5_11 ⟨rfl, rfl, Nat.le_of_ble_eq_true rfl, Nat.le_of_ble_eq_true rfl⟩ (rv_Model hK hT g0) hT rfl hl.1 rfl (Nat.le_of_ble_eq_true rfl) dX7_luck_14 ⟨Nat.zero_le _, Nat.zero_le _⟩ hS (fun _ h => h) (fun _ _ h => h) (fun r14 H locs hpo hS => ?_)
    obtain ⟨hT, u14_0, u14_1⟩ := hpo
    refine r_if_eq (tgt := 27) hx hb dX7_luck_17 (by decide) (fun c17 => ?_) (fun c17 => ?_)
    · refine r_ldc2 (-1) rfl hx hb hts hown mw_5_177 dX7_luck_27 (fun x27 e27 => ?_)
      exact rt_l hx hb hr hlk hS ⟨_, hwf, hvis, hT⟩ dX7_luck_30
    · refine lv_iload_n hx hb dX7_luck_20 rfl (lv_at hl 3 rfl) ?_
      refine cl_Si (rest := []) hC hK hSK (c_X7_isPart l z gh p3) k_X7_isPart mw_5_152 ⟨rfl, rfl, Nat.le_of_ble_eq_true rfl, Nat.le_of_ble_eq_true rfl⟩ hT rfl hl.1 rfl (Nat.le_of_ble_eq_true rfl) dX7_luck_21 ⟨Nat.zero_le _, Nat.zero_le _⟩ hS (fun _ h => h) (fun _ _ h => h) (fun r21 H locs hpo hS => ?_)
      obtain ⟨hT, u21_0, u21_1, u21_2⟩ := hpo
      refine r_if_ne (tgt := 31) hx hb dX7_luck_24 (by decide) (fun c24 => ?_) (fun c24 => ?_)
      · refine lv_aload_n hx hb dX7_luck_31 rfl (lv_at hl 0 rfl) ?_
        refine lv_iload_n hx hb dX7_luck_32 rfl (lv_at hl 1 rfl) ?_
        refine lv_iload_n hx hb dX7_luck_33 rfl (lv_at hl 2 rfl) ?_
        refine cl_Vv (rest := []) hC hK hSK (c_X7_findOdds l z v h0 (o0) g0 p1 p2) k_X7_findOdds mw_5_178 ⟨rfl, rfl, Nat.le_of_ble_eq_true rfl, Nat.le_of_ble_eq_true rfl⟩ (rv_Model hK hT g0) ⟨_, hwf, hvis, hT⟩ rfl hl.1 rfl (Nat.le_of_ble_eq_true rfl) dX7_luck_34 ⟨Nat.zero_le _, Nat.zero_le _⟩ hS (fun _ h => h) (fun _ _ h => h) (fun H locs hpo hS => ?_)
        obtain ⟨gh34, hwf, hvis, hT⟩ := hpo
        refine lv_aload_n hx hb dX7_luck_37 rfl (lv_at hl 0 rfl) ?_
        refine gt_Model_roundSum hx hb hts ic_Model hown hK hT g0 (hts _ mw_4_89) dX7_luck_38 (fun x38 => ?_)
        refine r_bipush hx hb dX7_luck_41 rfl (fun x41 e41 => ?_)
        refine lv_aload_n hx hb dX7_luck_43 rfl (lv_at hl 0 rfl) ?_
        refine gt_Model_men hx hb hts ic_Model hown hK hT g0 (hts _ mw_4_73) dX7_luck_44 (fun x44 i44 e44 g44 => ?_)
        refine cl_Si (rest := [.long x38]) hC hK hSK (c_X7_power l z gh34 x41 x44 (by omega) (by omega)) k_X7_power mw_5_142 ⟨rfl, rfl, Nat.le_of_ble_eq_true rfl, Nat.le_of_ble_eq_true rfl⟩ hT rfl hl.1 rfl (Nat.le_of_ble_eq_true rfl) dX7_luck_47 ⟨Nat.zero_le _, Nat.zero_le _⟩ hS (fun _ h => h) (fun _ _ h => h) (fun r47 H locs hpo hS => ?_)
        obtain ⟨hT, u47_0, u47_1⟩ := hpo
        refine r_i2l hx hb dX7_luck_50 (fun x50 e50 => ?_)
        refine lv_iload_n hx hb dX7_luck_51 rfl (lv_at hl 3 rfl) ?_
        refine cl_Sl (rest := []) hC hK hSK (c_X7_told l z gh34 x38 x50 p3 (by omega)) k_X7_told mw_5_186 ⟨rfl, rfl, Nat.le_of_ble_eq_true rfl, Nat.le_of_ble_eq_true rfl⟩ hT rfl hl.1 rfl (Nat.le_of_ble_eq_true rfl) dX7_luck_52 ⟨Nat.zero_le _, Nat.zero_le _⟩ hS (fun _ h => h) (fun _ _ h => h) (fun r52 H locs hpo hS => ?_)
        have hT := hpo
        exact rt_l hx hb hr hlk hS ⟨_, hwf, hvis, hT⟩ dX7_luck_55
      · refine r_ldc2 (-1) rfl hx hb hts hown mw_5_177 dX7_luck_27 (fun x27 e27 => ?_)
        exact rt_l hx hb hr hlk hS ⟨_, hwf, hvis, hT⟩ dX7_luck_30
theorem k_X7_mean : cBV yX7_mean cX7_mean 3 (some .long) 2 := ⟨mw_5_193, mw_5_194, mw_1_8, mw_5_195, ⟨by decide, by decide, by decide⟩⟩
set_option maxHeartbeats 4000000 in
set_option maxRecDepth 100000 in
theorem c_X7_mean (l : Launch) (z : Zt) (v : Nat → Nat → Int) (h0 o0 : Nat) (g0 : zG z h0 = (17, o0)) (p1 : Int32) (p2 : Int32) : Met l yX7_mean (uw yX7_mean cX7_mean 3 (some .long)) (rmF 10 270) (PcW z [.ref h0, .int p1, .int p2] (fun H => WX z v H)) (QcL z (fun r H => WX z v H)) 0 0 (zA z) := by
  refine Met.ofW (cc := cX7_mean) (maxL := 3) (ret := (some .long)) (by decide) rfl ?_
  intro p e s m args below meth c s₁ B hml hv
  obtain ⟨rfl, hW, hK, hSK⟩ := hv
  have hx := B.exec
  have hb := B.bytes
  have hr := B.returns
  have hts : ∀ w ∈ lw_ok, w.before ([.ref h0, .int p1, .int p2] : List Value).toArray s = true := fun w hw => atoms_spec (ws := uw yX7_mean cX7_mean 3 (some .long)) B.pre w (List.mem_cons_of_mem _ hw)
  have hown : s.vm.findClass RX7 = some m.cls := findClass_of_methodNamed B.named
  have hlk := B.notSynchronized
  have hC : CallFix p m c cX7_mean 3 s ([.ref h0, .int p1, .int p2] : List Value).toArray lw_ok RX7 := ⟨hx, hb, hml, hown, hts⟩
  have hS : va_S (zA z) s.heap s.heap [] := va_S.rf
  have hl := lv_entry ([.ref h0, .int p1, .int p2]) (n := 3) (Nat.le_of_ble_eq_true rfl)
  rw [lg_entry_eq]
  generalize (lg_sl ([.ref h0, .int p1, .int p2]) ++ List.replicate (3 - (lg_sl ([.ref h0, .int p1, .int p2])).length) Slot.unset).toArray = ls at hl ⊢
  have hl : lv_has ls 3 [(0, .ref h0), (1, .int p1), (2, .int p2)] := hl
  show W p l e (rmF 10 270) s m ([.ref h0, .int p1, .int p2] : List Value).toArray below meth c s.heap [] 0 0 (MQ below (QcL z (fun r H => WX z v H)) ([.ref h0, .int p1, .int p2] : List Value).toArray s 0 0 (zA z)) (F0 m 0 ls [])
  obtain ⟨gh, hwf, hvis, hT⟩ := hW
  have mx_p1 := i_mx p1
  have mx_p2 := i_mx p2
  refine lv_iload_n hx hb dX7_mean_0 rfl (lv_at hl 1 rfl) ?_
  refine r_i2l hx hb dX7_mean_1 (fun x1 e1 => ?_)
  refine r_lconst0 hx hb dX7_mean_2 (fun x2 e2 => ?_)
  refine r_ldc2 (10) rfl hx hb hts hown mw_5_176 dX7_mean_3 (fun x3 e3 => ?_)
  refine cl_Si (rest := []) hC hK hSK (c_X7_in l z gh x1 x2 x3) k_X7_in mw_4_154 ⟨rfl, rfl, Nat.le_of_ble_eq_true rfl, Nat.le_of_ble_eq_true rfl⟩ hT rfl hl.1 rfl (Nat.le_of_ble_eq_true rfl) dX7_mean_6 ⟨Nat.zero_le _, Nat.zero_le _⟩ hS (fun _ h => h) (fun _ _ h => h) (fun r6 H locs hpo hS => ?_)
  obtain ⟨hT, u6_0, u6_1⟩ := hpo
  refine r_if_eq (tgt := 19) hx hb dX7_mean_9 (by decide) (fun c9 => ?_) (fun c9 => ?_)
  · refine r_ldc2 (-1) rfl hx hb hts hown mw_5_177 dX7_mean_19 (fun x19 e19 => ?_)
    exact rt_l hx hb hr hlk hS ⟨_, hwf, hvis, hT⟩ dX7_mean_22
  · refine lv_iload_n hx hb dX7_mean_12 rfl (lv_at hl 2 rfl) ?_
    refine cl_Si (rest := []) hC hK hSK (c_X7_isPart l z gh p2) k_X7_isPart mw_5_152 ⟨rfl, rfl, Nat.le_of_ble_eq_true rfl, Nat.le_of_ble_eq_true rfl⟩ hT rfl hl.1 rfl (Nat.le_of_ble_eq_true rfl) dX7_mean_13 ⟨Nat.zero_le _, Nat.zero_le _⟩ hS (fun _ h => h) (fun _ _ h => h) (fun r13 H locs hpo hS => ?_)
    obtain ⟨hT, u13_0, u13_1, u13_2⟩ := hpo
    refine r_if_ne (tgt := 23) hx hb dX7_mean_16 (by decide) (fun c16 => ?_) (fun c16 => ?_)
    · refine lv_aload_n hx hb dX7_mean_23 rfl (lv_at hl 0 rfl) ?_
      refine lv_iload_n hx hb dX7_mean_24 rfl (lv_at hl 1 rfl) ?_
      refine r_iconst hx hb dX7_mean_25 (by decide) (by decide) (fun x25 e25 => ?_)
      refine cl_Vv (rest := []) hC hK hSK (c_X7_findOdds l z v h0 (o0) g0 p1 x25) k_X7_findOdds mw_5_178 ⟨rfl, rfl, Nat.le_of_ble_eq_true rfl, Nat.le_of_ble_eq_true rfl⟩ (rv_Model hK hT g0) ⟨_, hwf, hvis, hT⟩ rfl hl.1 rfl (Nat.le_of_ble_eq_true rfl) dX7_mean_26 ⟨Nat.zero_le _, Nat.zero_le _⟩ hS (fun _ h => h) (fun _ _ h => h) (fun H locs hpo hS => ?_)
      obtain ⟨gh26, hwf, hvis, hT⟩ := hpo
      refine lv_aload_n hx hb dX7_mean_29 rfl (lv_at hl 0 rfl) ?_
      refine gt_Model_allSum hx hb hts ic_Model hown hK hT g0 (hts _ mw_4_90) dX7_mean_30 (fun x30 => ?_)
      refine r_bipush hx hb dX7_mean_33 rfl (fun x33 e33 => ?_)
      refine lv_aload_n hx hb dX7_mean_35 rfl (lv_at hl 0 rfl) ?_
      refine gt_Model_men hx hb hts ic_Model hown hK hT g0 (hts _ mw_4_73) dX7_mean_36 (fun x36 i36 e36 g36 => ?_)
      refine cl_Si (rest := [.long x30]) hC hK hSK (c_X7_power l z gh26 x33 x36 (by omega) (by omega)) k_X7_power mw_5_142 ⟨rfl, rfl, Nat.le_of_ble_eq_true rfl, Nat.le_of_ble_eq_true rfl⟩ hT rfl hl.1 rfl (Nat.le_of_ble_eq_true rfl) dX7_mean_39 ⟨Nat.zero_le _, Nat.zero_le _⟩ hS (fun _ h => h) (fun _ _ h => h) (fun r39 H locs hpo hS => ?_)
      obtain ⟨hT, u39_0, u39_1⟩ := hpo
      refine r_i2l hx hb dX7_mean_42 (fun x42 e42 => ?_)
      refine lv_iload_n hx hb dX7_mean_43 rfl (lv_at hl 2 rfl) ?_
      refine cl_Sl (rest := []) hC hK hSK (c_X7_told l z gh26 x30 x42 p2 (by omega)) k_X7_told mw_5_186 ⟨rfl, rfl, Nat.le_of_ble_eq_true rfl, Nat.le_of_ble_eq_true rfl⟩ hT rfl hl.1 rfl (Nat.le_of_ble_eq_true rfl) dX7_mean_44 ⟨Nat.zero_le _, Nat.zero_le _⟩ hS (fun _ h => h) (fun _ _ h => h) (fun r44 H locs hpo hS => ?_)
      have hT := hpo
      exact rt_l hx hb hr hlk hS ⟨_, hwf, hvis, hT⟩ dX7_mean_47
    · refine r_ldc2 (-1) rfl hx hb hts hown mw_5_177 dX7_mean_19 (fun x19 e19 => ?_)
      exact rt_l hx hb hr hlk hS ⟨_, hwf, hvis, hT⟩ dX7_mean_22
theorem k_X7_isSo : cBV yX7_isSo cX7_isSo 5 (some .boolean) 0 := ⟨mw_5_210, ms_4_1, mw_1_8, mw_5_211, ⟨by decide, by decide, by decide⟩⟩
set_option maxHeartbeats 4000000 in
set_option maxRecDepth 100000 in
theorem c_X7_isSo (l : Launch) (z : Zt) (v : Nat → Nat → Int) (h0 o0 : Nat) (g0 : zG z h0 = (17, o0)) : Met l yX7_isSo (uw yX7_isSo cX7_isSo 5 (some .boolean)) (rmF 8 222) (PcW z [.ref h0] (fun H => (∃ gh : Gh, wf z gh ∧ vis z gh v ∧ nowOK (gh.1 h0) ∧ TY z (zA z) gh H))) (QcI z (fun r H => (∃ gh : Gh, wf z gh ∧ vis z gh v ∧ nowOK (gh.1 h0) ∧ TY z (zA z) gh H) ∧ (0 ≤ r.toInt ∧ r.toInt ≤ 1))) 0 0 (zA z) := by
  refine Met.ofW (cc := cX7_isSo) (maxL := 5) (ret := (some .boolean)) (by decide) rfl ?_
  intro p e s m args below meth c s₁ B hml hv
  obtain ⟨rfl, hW, hK, hSK⟩ := hv
  have hx := B.exec
  have hb := B.bytes
  have hr := B.returns
  have hts : ∀ w ∈ lw_ok, w.before ([.ref h0] : List Value).toArray s = true := fun w hw => atoms_spec (ws := uw yX7_isSo cX7_isSo 5 (some .boolean)) B.pre w (List.mem_cons_of_mem _ hw)
  have hown : s.vm.findClass RX7 = some m.cls := findClass_of_methodNamed B.named
  have hlk := B.notSynchronized
  have hC : CallFix p m c cX7_isSo 5 s ([.ref h0] : List Value).toArray lw_ok RX7 := ⟨hx, hb, hml, hown, hts⟩
  have hS : va_S (zA z) s.heap s.heap [] := va_S.rf
  have hl := lv_entry ([.ref h0]) (n := 5) (Nat.le_of_ble_eq_true rfl)
  rw [lg_entry_eq]
  generalize (lg_sl ([.ref h0]) ++ List.replicate (5 - (lg_sl ([.ref h0])).length) Slot.unset).toArray = ls at hl ⊢
  have hl : lv_has ls 5 [(0, .ref h0)] := hl
  show W p l e (rmF 8 222) s m ([.ref h0] : List Value).toArray below meth c s.heap [] 0 0 (MQ below (QcI z (fun r H => (∃ gh : Gh, wf z gh ∧ vis z gh v ∧ nowOK (gh.1 h0) ∧ TY z (zA z) gh H) ∧ (0 ≤ r.toInt ∧ r.toInt ≤ 1))) ([.ref h0] : List Value).toArray s 0 0 (zA z)) (F0 m 0 ls [])
  obtain ⟨gh, hwf, hvis, hnow, hT⟩ := hW
  refine r_iconst hx hb dX7_isSo_0 (by decide) (by decide) (fun x0 e0 => ?_)
  refine lv_istore_n (lv' := [(1, .int x0), (0, .ref h0)]) hx hb dX7_isSo_1 rfl hl (by decide) rfl (fun ls hl => ?_)
  refine r_iconst hx hb dX7_isSo_2 (by decide) (by decide) (fun x2 e2 => ?_)
  refine lv_istore_n (lv' := [(2, .int x2), (1, .int x0), (0, .ref h0)]) hx hb dX7_isSo_3 rfl hl (by decide) rfl (fun ls hl => ?_)
  have J4 : ∀ (n4 : Nat) (ls : Array Slot) (H : Heap) (locs : List Loc) (y4_1 : Int32) (y4_2 : Int32) (gh : Gh), (0 ≤ y4_1.toInt ∧ y4_1.toInt ≤ 1) → (0 ≤ y4_2.toInt ∧ y4_2.toInt ≤ 9) → (9 - y4_2.toInt) < (n4 : Int) → wf z gh → vis z gh v → nowOK (gh.1 h0) → TY z (zA z) gh H → va_S (zA z) s.heap H locs → lv_has ls 5 [(0, .ref h0), (1, .int y4_1), (2, .int y4_2)] → W p l e (rmF 8 222) s m ([.ref h0] : List Value).toArray below meth c H locs 0 0 (MQ below (QcI z (fun r H => (∃ gh : Gh, wf z gh ∧ vis z gh v ∧ nowOK (gh.1 h0) ∧ TY z (zA z) gh H) ∧ (0 ≤ r.toInt ∧ r.toInt ≤ 1))) ([.ref h0] : List Value).toArray s 0 0 (zA z)) (F0 m 4 ls []) := by
    intro n4
    induction n4 with
    | zero => intro ls H locs y4_1 y4_2 gh j4_y4_1 j4_y4_2 mm4 hwf hvis hnow hT hS hl; exfalso; omega
    | succ n4 ih4 =>
      intro ls H locs y4_1 y4_2 gh j4_y4_1 j4_y4_2 mm4 hwf hvis hnow hT hS hl
      refine lv_iload_n hx hb dX7_isSo_4 rfl (lv_at hl 2 rfl) ?_
      refine r_bipush hx hb dX7_isSo_5 rfl (fun x5 e5 => ?_)
      refine r_icmp_gt (tgt := 117) hx hb dX7_isSo_7 (by decide) (fun c7 => ?_) (fun c7 => ?_)
      · refine lv_iload_n hx hb dX7_isSo_117 rfl (lv_at hl 1 rfl) ?_
        exact rt_z hx hb hr hlk hS (by omega) (by omega) ⟨⟨_, hwf, hvis, hnow, hT⟩, by omega⟩ dX7_isSo_118
      · refine r_iconst hx hb dX7_isSo_10 (by decide) (by decide) (fun x10 e10 => ?_)
        refine lv_istore_n (lv' := [(3, .int x10), (0, .ref h0), (1, .int y4_1), (2, .int y4_2)]) hx hb dX7_isSo_11 rfl hl (by decide) rfl (fun ls hl => ?_)
        have J12 : ∀ (n12 : Nat) (ls : Array Slot) (H : Heap) (locs : List Loc) (y12_1 : Int32) (y12_3 : Int32) (gh : Gh), (0 ≤ y12_1.toInt ∧ y12_1.toInt ≤ 1) → (0 ≤ y12_3.toInt ∧ y12_3.toInt ≤ 6) → (9 - y4_2.toInt) < ((n4 + 1 : Nat) : Int) → (6 - y12_3.toInt) < (n12 : Int) → wf z gh → vis z gh v → nowOK (gh.1 h0) → TY z (zA z) gh H → va_S (zA z) s.heap H locs → lv_has ls 5 [(0, .ref h0), (1, .int y12_1), (2, .int y4_2), (3, .int y12_3)] → W p l e (rmF 8 222) s m ([.ref h0] : List Value).toArray below meth c H locs 0 0 (MQ below (QcI z (fun r H => (∃ gh : Gh, wf z gh ∧ vis z gh v ∧ nowOK (gh.1 h0) ∧ TY z (zA z) gh H) ∧ (0 ≤ r.toInt ∧ r.toInt ≤ 1))) ([.ref h0] : List Value).toArray s 0 0 (zA z)) (F0 m 12 ls []) := by
          intro n12
          induction n12 with
          | zero => intro ls H locs y12_1 y12_3 gh j12_y12_1 j12_y12_3 mf12_4 mm12 hwf hvis hnow hT hS hl; exfalso; omega
          | succ n12 ih12 =>
            intro ls H locs y12_1 y12_3 gh j12_y12_1 j12_y12_3 mf12_4 mm12 hwf hvis hnow hT hS hl
            refine lv_iload_n hx hb dX7_isSo_12 rfl (lv_at hl 3 rfl) ?_
            refine lv_aload_n hx hb dX7_isSo_13 rfl (lv_at hl 0 rfl) ?_
            refine gt_Model_now hx hb hts ic_Model hown hK hT g0 (hts _ mw_4_71) dX7_isSo_14 (fun q14 hq14 => ?_)
            refine r_bipush hx hb dX7_isSo_17 rfl (fun x17 e17 => ?_)
            refine al_41 hx hb hK hT hq14 (by omega) (by omega) dX7_isSo_19 (fun x19 i19 e19 => ?_)
            have n19 := ix_nat (i := x17) (by omega)
            have f19 := b59_r40 (p41_e e19) (by omega)
            refine r_icmp_ge (tgt := 87) hx hb dX7_isSo_20 (by decide) (fun c20 => ?_) (fun c20 => ?_)
            · refine lv_iload_n hx hb dX7_isSo_87 rfl (lv_at hl 2 rfl) ?_
              refine lv_aload_n hx hb dX7_isSo_88 rfl (lv_at hl 0 rfl) ?_
              refine gt_Model_now hx hb hts ic_Model hown hK hT g0 (hts _ mw_4_71) dX7_isSo_89 (fun q89 hq89 => ?_)
              refine r_bipush hx hb dX7_isSo_92 rfl (fun x92 e92 => ?_)
              refine al_41 hx hb hK hT hq89 (by omega) (by omega) dX7_isSo_94 (fun x94 i94 e94 => ?_)
              have n94 := ix_nat (i := x92) (by omega)
              have f94 := b59_r31 (p41_e e94) (by omega)
              have J111 : ∀ (ls : Array Slot) (H : Heap) (locs : List Loc) (gh : Gh), (9 - y4_2.toInt) < ((n4 + 1 : Nat) : Int) → wf z gh → vis z gh v → nowOK (gh.1 h0) → TY z (zA z) gh H → va_S (zA z) s.heap H locs → lv_has ls 5 [(0, .ref h0), (1, .int y12_1), (2, .int y4_2), (3, .int y12_3)] → W p l e (rmF 8 222) s m ([.ref h0] : List Value).toArray below meth c H locs 0 0 (MQ below (QcI z (fun r H => (∃ gh : Gh, wf z gh ∧ vis z gh v ∧ nowOK (gh.1 h0) ∧ TY z (zA z) gh H) ∧ (0 ≤ r.toInt ∧ r.toInt ≤ 1))) ([.ref h0] : List Value).toArray s 0 0 (zA z)) (F0 m 111 ls []) := by
                intro ls H locs gh mf111_4 hwf hvis hnow hT hS hl
                refine r_iinc (lv' := fun v__ => [(2, .int v__), (0, .ref h0), (1, .int y12_1), (3, .int y12_3)]) hx hb dX7_isSo_111 hl (k := 2) rfl (by decide) (fun _ => rfl) ⟨by decide, by decide⟩ (by omega) (by omega) (fun x111 ls e111 hl => ?_)
                refine lv_goto (tgt := 4) hx hb dX7_isSo_114 (by decide) ?_
                exact ih4 ls _ _ y12_1 x111 _ (by omega) (by omega) (by omega) hwf hvis hnow hT hS (lv_sub hl [1, 2, 0] rfl)
              refine r_icmp_ge (tgt := 111) hx hb dX7_isSo_95 (by decide) (fun c95 => ?_) (fun c95 => ?_)
              · exact J111 ls _ _ _ (by omega) hwf hvis hnow hT hS (lv_sub hl [0, 1, 2, 3] rfl)
              · refine lv_aload_n hx hb dX7_isSo_98 rfl (lv_at hl 0 rfl) ?_
                refine lv_aload_n hx hb dX7_isSo_99 rfl (lv_at hl 0 rfl) ?_
                refine gt_Model_now hx hb hts ic_Model hown hK hT g0 (hts _ mw_4_71) dX7_isSo_100 (fun q100 hq100 => ?_)
                refine r_bipush hx hb dX7_isSo_103 rfl (fun x103 e103 => ?_)
                refine lv_iload_n hx hb dX7_isSo_105 rfl (lv_at hl 2 rfl) ?_
                refine r_iadd hx hb dX7_isSo_106 (by omega) (by omega) (fun x106 e106 => ?_)
                refine al_41 hx hb hK hT hq100 (by omega) (by omega) dX7_isSo_107 (fun x107 i107 e107 => ?_)
                have n107 := ix_nat (i := x106) (by omega)
                refine cl_Vv (rest := []) hC hK hSK (c_X7_danceOn l z gh h0 (o0) g0 x107 hwf.2.2 hnow) k_X7_danceOn mw_5_88 ⟨rfl, rfl, Nat.le_of_ble_eq_true rfl, Nat.le_of_ble_eq_true rfl⟩ (rv_Model hK hT g0) hT rfl hl.1 rfl (Nat.le_of_ble_eq_true rfl) dX7_isSo_108 ⟨Nat.zero_le _, Nat.zero_le _⟩ hS (fun _ h => h) (fun _ _ h => h) (fun H locs hpo hS => ?_)
                obtain ⟨gh108, hz108, hT⟩ := hpo
                have hst108 := hz108.2
                have hz108 := eqv_eq hz108.1
                have hwf := wf_of hz108 hwf
                have hvis := vis_of hz108 hvis
                have hnow := nowOK_of hz108 hnow
                have r41_108 := hz108 h0 41 rfl
                exact J111 ls _ _ _ (by omega) hwf hvis hnow hT hS (lv_sub hl [0, 1, 2, 3] rfl)
            · refine r_bipush hx hb dX7_isSo_23 rfl (fun x23 e23 => ?_)
              refine r_iconst hx hb dX7_isSo_25 (by decide) (by decide) (fun x25 e25 => ?_)
              refine lv_iload_n hx hb dX7_isSo_26 rfl (lv_at hl 3 rfl) ?_
              refine r_imulL (3) (by omega) hx hb dX7_isSo_27 (by omega) (by omega) (fun x27 e27 => ?_)
              refine r_iadd hx hb dX7_isSo_28 (by omega) (by omega) (fun x28 e28 => ?_)
              refine lv_istore (lv' := [(4, .int x28), (0, .ref h0), (1, .int y12_1), (2, .int y4_2), (3, .int y12_3)]) hx hb dX7_isSo_29 hl (by decide) rfl (fun ls hl => ?_)
              refine lv_iload_n hx hb dX7_isSo_31 rfl (lv_at hl 2 rfl) ?_
              have J80 : ∀ (ls : Array Slot) (H : Heap) (locs : List Loc) (t80_0 : Int32) (gh : Gh), (0 ≤ t80_0.toInt ∧ t80_0.toInt ≤ 1) → (9 - y4_2.toInt) < ((n4 + 1 : Nat) : Int) → (6 - y12_3.toInt) < ((n12 + 1 : Nat) : Int) → wf z gh → vis z gh v → nowOK (gh.1 h0) → TY z (zA z) gh H → va_S (zA z) s.heap H locs → lv_has ls 5 [(0, .ref h0), (1, .int y12_1), (2, .int y4_2), (3, .int y12_3), (4, .int x28)] → W p l e (rmF 8 222) s m ([.ref h0] : List Value).toArray below meth c H locs 0 0 (MQ below (QcI z (fun r H => (∃ gh : Gh, wf z gh ∧ vis z gh v ∧ nowOK (gh.1 h0) ∧ TY z (zA z) gh H) ∧ (0 ≤ r.toInt ∧ r.toInt ≤ 1))) ([.ref h0] : List Value).toArray s 0 0 (zA z)) (F0 m 80 ls [.int t80_0]) := by
                intro ls H locs t80_0 gh j80_t80_0 mf80_4 mf80_12 hwf hvis hnow hT hS hl
                refine lv_istore_n (lv' := [(1, .int t80_0), (0, .ref h0), (2, .int y4_2), (3, .int y12_3), (4, .int x28)]) hx hb dX7_isSo_80 rfl hl (by decide) rfl (fun ls hl => ?_)
                refine r_iinc (lv' := fun v__ => [(3, .int v__), (1, .int t80_0), (0, .ref h0), (2, .int y4_2), (4, .int x28)]) hx hb dX7_isSo_81 hl (k := 3) rfl (by decide) (fun _ => rfl) ⟨by decide, by decide⟩ (by omega) (by omega) (fun x81 ls e81 hl => ?_)
                refine lv_goto (tgt := 12) hx hb dX7_isSo_84 (by decide) ?_
                exact ih12 ls _ _ t80_0 x81 _ (by omega) (by omega) (by omega) (by omega) hwf hvis hnow hT hS (lv_sub hl [2, 1, 3, 0] rfl)
              have J79 : ∀ (ls : Array Slot) (H : Heap) (locs : List Loc) (gh : Gh), (9 - y4_2.toInt) < ((n4 + 1 : Nat) : Int) → (6 - y12_3.toInt) < ((n12 + 1 : Nat) : Int) → wf z gh → vis z gh v → nowOK (gh.1 h0) → TY z (zA z) gh H → va_S (zA z) s.heap H locs → lv_has ls 5 [(0, .ref h0), (1, .int y12_1), (2, .int y4_2), (3, .int y12_3), (4, .int x28)] → W p l e (rmF 8 222) s m ([.ref h0] : List Value).toArray below meth c H locs 0 0 (MQ below (QcI z (fun r H => (∃ gh : Gh, wf z gh ∧ vis z gh v ∧ nowOK (gh.1 h0) ∧ TY z (zA z) gh H) ∧ (0 ≤ r.toInt ∧ r.toInt ≤ 1))) ([.ref h0] : List Value).toArray s 0 0 (zA z)) (F0 m 79 ls []) := by
                intro ls H locs gh mf79_4 mf79_12 hwf hvis hnow hT hS hl
                refine r_iconst hx hb dX7_isSo_79 (by decide) (by decide) (fun x79 e79 => ?_)
                exact J80 ls _ _ x79 _ (by omega) (by omega) (by omega) hwf hvis hnow hT hS (lv_sub hl [0, 1, 2, 3, 4] rfl)
              refine r_if_eq (tgt := 79) hx hb dX7_isSo_32 (by decide) (fun c32 => ?_) (fun c32 => ?_)
              · exact J79 ls _ _ _ (by omega) (by omega) hwf hvis hnow hT hS (lv_sub hl [1, 2, 3, 4, 0] rfl)
              · refine lv_aload_n hx hb dX7_isSo_35 rfl (lv_at hl 1 rfl) ?_
                refine gt_Model_now hx hb hts ic_Model hown hK hT g0 (hts _ mw_4_71) dX7_isSo_36 (fun q36 hq36 => ?_)
                refine lv_iload hx hb dX7_isSo_39 (lv_at hl 0 rfl) ?_
                refine r_iconst hx hb dX7_isSo_41 (by decide) (by decide) (fun x41 e41 => ?_)
                refine r_iadd hx hb dX7_isSo_42 (by omega) (by omega) (fun x42 e42 => ?_)
                refine al_41 hx hb hK hT hq36 (by omega) (by omega) dX7_isSo_43 (fun x43 i43 e43 => ?_)
                have n43 := ix_nat (i := x42) (by omega)
                refine lv_iload_n hx hb dX7_isSo_44 rfl (lv_at hl 3 rfl) ?_
                have J75 : ∀ (ls : Array Slot) (H : Heap) (locs : List Loc) (gh : Gh), (9 - y4_2.toInt) < ((n4 + 1 : Nat) : Int) → (6 - y12_3.toInt) < ((n12 + 1 : Nat) : Int) → wf z gh → vis z gh v → nowOK (gh.1 h0) → TY z (zA z) gh H → va_S (zA z) s.heap H locs → lv_has ls 5 [(0, .ref h0), (1, .int y12_1), (2, .int y4_2), (3, .int y12_3), (4, .int x28)] → W p l e (rmF 8 222) s m ([.ref h0] : List Value).toArray below meth c H locs 0 0 (MQ below (QcI z (fun r H => (∃ gh : Gh, wf z gh ∧ vis z gh v ∧ nowOK (gh.1 h0) ∧ TY z (zA z) gh H) ∧ (0 ≤ r.toInt ∧ r.toInt ≤ 1))) ([.ref h0] : List Value).toArray s 0 0 (zA z)) (F0 m 75 ls []) := by
                  intro ls H locs gh mf75_4 mf75_12 hwf hvis hnow hT hS hl
                  refine r_iconst hx hb dX7_isSo_75 (by decide) (by decide) (fun x75 e75 => ?_)
                  refine lv_goto (tgt := 80) hx hb dX7_isSo_76 (by decide) ?_
                  exact J80 ls _ _ x75 _ (by omega) (by omega) (by omega) hwf hvis hnow hT hS (lv_sub hl [0, 1, 2, 3, 4] rfl)
                refine r_icmp_ne (tgt := 75) hx hb dX7_isSo_45 (by decide) (fun c45 => ?_) (fun c45 => ?_)
                · exact J75 ls _ _ _ (by omega) (by omega) hwf hvis hnow hT hS (lv_sub hl [1, 2, 3, 4, 0] rfl)
                · refine lv_aload_n hx hb dX7_isSo_48 rfl (lv_at hl 1 rfl) ?_
                  refine gt_Model_now hx hb hts ic_Model hown hK hT g0 (hts _ mw_4_71) dX7_isSo_49 (fun q49 hq49 => ?_)
                  refine r_bipush hx hb dX7_isSo_52 rfl (fun x52 e52 => ?_)
                  refine lv_aload_n hx hb dX7_isSo_54 rfl (lv_at hl 1 rfl) ?_
                  refine gt_Model_now hx hb hts ic_Model hown hK hT g0 (hts _ mw_4_71) dX7_isSo_55 (fun q55 hq55 => ?_)
                  refine lv_iload hx hb dX7_isSo_58 (lv_at hl 0 rfl) ?_
                  refine al_41 hx hb hK hT hq55 (by omega) (by omega) dX7_isSo_60 (fun x60 i60 e60 => ?_)
                  have n60 := ix_nat (i := x28) (by omega)
                  have f60 := b59_r41 (p41_e e60) (by omega) (by omega)
                  refine r_iadd hx hb dX7_isSo_61 (by omega) (by omega) (fun x61 e61 => ?_)
                  refine al_41 hx hb hK hT hq49 (by omega) (by omega) dX7_isSo_62 (fun x62 i62 e62 => ?_)
                  have n62 := ix_nat (i := x61) (by omega)
                  have f62 := b59_r20 (p41_e e62) (by omega) (by omega)
                  refine lv_aload_n hx hb dX7_isSo_63 rfl (lv_at hl 1 rfl) ?_
                  refine gt_Model_now hx hb hts ic_Model hown hK hT g0 (hts _ mw_4_71) dX7_isSo_64 (fun q64 hq64 => ?_)
                  refine lv_iload hx hb dX7_isSo_67 (lv_at hl 0 rfl) ?_
                  refine r_iconst hx hb dX7_isSo_69 (by decide) (by decide) (fun x69 e69 => ?_)
                  refine r_iadd hx hb dX7_isSo_70 (by omega) (by omega) (fun x70 e70 => ?_)
                  refine al_41 hx hb hK hT hq64 (by omega) (by omega) dX7_isSo_71 (fun x71 i71 e71 => ?_)
                  have n71 := ix_nat (i := x70) (by omega)
                  refine r_icmp_ne (tgt := 79) hx hb dX7_isSo_72 (by decide) (fun c72 => ?_) (fun c72 => ?_)
                  · exact J79 ls _ _ _ (by omega) (by omega) hwf hvis hnow hT hS (lv_sub hl [1, 2, 3, 4, 0] rfl)
                  · exact J75 ls _ _ _ (by omega) (by omega) hwf hvis hnow hT hS (lv_sub hl [1, 2, 3, 4, 0] rfl)
        exact J12 (((6 - x10.toInt)).toNat + 1) ls _ _ y4_1 x10 _ (by omega) (by omega) (by omega) (by omega) hwf hvis hnow hT hS (lv_sub hl [1, 2, 3, 0] rfl)
  exact J4 (((9 - x2.toInt)).toNat + 1) ls _ _ x0 x2 _ (by omega) (by omega) (by omega) hwf hvis hnow hT hS (lv_sub hl [2, 1, 0] rfl)
theorem k_X7_bent : cBV yX7_bent cX7_bent 3 (some .int) 0 := ⟨mw_5_205, mw_5_206, mw_1_8, mw_5_207, ⟨by decide, by decide, by decide⟩⟩
set_option maxHeartbeats 4000000 in
set_option maxRecDepth 100000 in
theorem c_X7_bent (l : Launch) (z : Zt) (v : Nat → Nat → Int) (h0 o0 : Nat) (g0 : zG z h0 = (17, o0)) : Met l yX7_bent (uw yX7_bent cX7_bent 3 (some .int)) (rmF 9 246) (PcW z [.ref h0] (fun H => WX z v H)) (QcI z (fun r H => WX z v H)) 0 0 (zA z) := by
  refine Met.ofW (cc := cX7_bent) (maxL := 3) (ret := (some .int)) (by decide) rfl ?_
  intro p e s m args below meth c s₁ B hml hv
  obtain ⟨rfl, hW, hK, hSK⟩ := hv
  have hx := B.exec
  have hb := B.bytes
  have hr := B.returns
  have hts : ∀ w ∈ lw_ok, w.before ([.ref h0] : List Value).toArray s = true := fun w hw => atoms_spec (ws := uw yX7_bent cX7_bent 3 (some .int)) B.pre w (List.mem_cons_of_mem _ hw)
  have hown : s.vm.findClass RX7 = some m.cls := findClass_of_methodNamed B.named
  have hlk := B.notSynchronized
  have hC : CallFix p m c cX7_bent 3 s ([.ref h0] : List Value).toArray lw_ok RX7 := ⟨hx, hb, hml, hown, hts⟩
  have hS : va_S (zA z) s.heap s.heap [] := va_S.rf
  have hl := lv_entry ([.ref h0]) (n := 3) (Nat.le_of_ble_eq_true rfl)
  rw [lg_entry_eq]
  generalize (lg_sl ([.ref h0]) ++ List.replicate (3 - (lg_sl ([.ref h0])).length) Slot.unset).toArray = ls at hl ⊢
  have hl : lv_has ls 3 [(0, .ref h0)] := hl
  show W p l e (rmF 9 246) s m ([.ref h0] : List Value).toArray below meth c s.heap [] 0 0 (MQ below (QcI z (fun r H => WX z v H)) ([.ref h0] : List Value).toArray s 0 0 (zA z)) (F0 m 0 ls [])
  obtain ⟨gh, hwf, hvis, hT⟩ := hW
  refine r_iconst hx hb dX7_bent_0 (by decide) (by decide) (fun x0 e0 => ?_)
  refine lv_istore_n (lv' := [(1, .int x0), (0, .ref h0)]) hx hb dX7_bent_1 rfl hl (by decide) rfl (fun ls hl => ?_)
  refine r_iconst hx hb dX7_bent_2 (by decide) (by decide) (fun x2 e2 => ?_)
  refine lv_istore_n (lv' := [(2, .int x2), (1, .int x0), (0, .ref h0)]) hx hb dX7_bent_3 rfl hl (by decide) rfl (fun ls hl => ?_)
  have J4 : ∀ (n4 : Nat) (ls : Array Slot) (H : Heap) (locs : List Loc) (y4_1 : Int32) (y4_2 : Int32) (gh : Gh), (0 ≤ y4_2.toInt ∧ y4_2.toInt ≤ 5) → (5 - y4_2.toInt) < (n4 : Int) → wf z gh → vis z gh v → TY z (zA z) gh H → va_S (zA z) s.heap H locs → lv_has ls 3 [(0, .ref h0), (1, .int y4_1), (2, .int y4_2)] → W p l e (rmF 9 246) s m ([.ref h0] : List Value).toArray below meth c H locs 0 0 (MQ below (QcI z (fun r H => WX z v H)) ([.ref h0] : List Value).toArray s 0 0 (zA z)) (F0 m 4 ls []) := by
    intro n4
    induction n4 with
    | zero => intro ls H locs y4_1 y4_2 gh j4_y4_2 mm4 hwf hvis hT hS hl; exfalso; omega
    | succ n4 ih4 =>
      intro ls H locs y4_1 y4_2 gh j4_y4_2 mm4 hwf hvis hT hS hl
      refine lv_iload_n hx hb dX7_bent_4 rfl (lv_at hl 2 rfl) ?_
      refine lv_aload_n hx hb dX7_bent_5 rfl (lv_at hl 0 rfl) ?_
      refine gt_Model_men hx hb hts ic_Model hown hK hT g0 (hts _ mw_4_73) dX7_bent_6 (fun x6 i6 e6 g6 => ?_)
      refine r_icmp_ge (tgt := 41) hx hb dX7_bent_9 (by decide) (fun c9 => ?_) (fun c9 => ?_)
      · refine lv_iload_n hx hb dX7_bent_41 rfl (lv_at hl 1 rfl) ?_
        exact rt_i hx hb hr hlk hS ⟨_, hwf, hvis, hT⟩ dX7_bent_42
      · refine lv_aload_n hx hb dX7_bent_12 rfl (lv_at hl 0 rfl) ?_
        refine cl_Vv (rest := []) hC hK hSK (c_X7_starts l z gh h0 (o0) g0 hwf) k_X7_starts mw_4_229 ⟨rfl, rfl, Nat.le_of_ble_eq_true rfl, Nat.le_of_ble_eq_true rfl⟩ (rv_Model hK hT g0) hT rfl hl.1 rfl (Nat.le_of_ble_eq_true rfl) dX7_bent_13 ⟨Nat.zero_le _, Nat.zero_le _⟩ hS (fun _ h => h) (fun _ _ h => h) (fun H locs hpo hS => ?_)
        obtain ⟨gh13, hz13, hst13, hnow, hT⟩ := hpo
        have hwf := wf_ne hz13 hwf
        have hvis := vis_ne hz13 hvis
        have r41_13 := hz13 h0 41 (by decide) (by decide)
        refine lv_aload_n hx hb dX7_bent_16 rfl (lv_at hl 0 rfl) ?_
        refine lv_iload_n hx hb dX7_bent_17 rfl (lv_at hl 2 rfl) ?_
        refine r_iconst hx hb dX7_bent_18 (by decide) (by decide) (fun x18 e18 => ?_)
        refine r_iconst hx hb dX7_bent_19 (by decide) (by decide) (fun x19 e19 => ?_)
        refine cl_Vv (rest := []) hC hK hSK (c_X7_becomesOf l z gh13 h0 (o0) g0 y4_2 x18 x19 (by omega) (by omega) (by omega)) k_X7_becomesOf mw_5_100 ⟨rfl, rfl, Nat.le_of_ble_eq_true rfl, Nat.le_of_ble_eq_true rfl⟩ (rv_Model hK hT g0) hT rfl hl.1 rfl (Nat.le_of_ble_eq_true rfl) dX7_bent_20 ⟨Nat.zero_le _, Nat.zero_le _⟩ hS (fun _ h => h) (fun _ _ h => h) (fun H locs hpo hS => ?_)
        obtain ⟨gh20, hz20, hT⟩ := hpo
        have hst20 := hz20.2
        have hz20 := eqv_eq hz20.1
        have hwf := wf_of hz20 hwf
        have hvis := vis_of hz20 hvis
        have hnow := nowOK_of hz20 hnow
        have r41_20 := hz20 h0 41 rfl
        refine lv_iload_n hx hb dX7_bent_23 rfl (lv_at hl 1 rfl) ?_
        refine lv_aload_n hx hb dX7_bent_24 rfl (lv_at hl 0 rfl) ?_
        refine cl_Vi (rest := [.int y4_1]) hC hK hSK (c_X7_isSo l z v h0 (o0) g0) k_X7_isSo mw_5_208 ⟨rfl, rfl, Nat.le_of_ble_eq_true rfl, Nat.le_of_ble_eq_true rfl⟩ (rv_Model hK hT g0) ⟨_, hwf, hvis, hnow, hT⟩ rfl hl.1 rfl (Nat.le_of_ble_eq_true rfl) dX7_bent_25 ⟨Nat.zero_le _, Nat.zero_le _⟩ hS (fun _ h => h) (fun _ _ h => h) (fun r25 H locs hpo hS => ?_)
        obtain ⟨⟨gh25, hwf, hvis, hnow, hT⟩, u25_0⟩ := hpo
        refine cl_Si (rest := [.int y4_1]) hC hK hSK (c_X7_flag l z gh25 r25 (by omega)) k_X7_flag mw_5_4 ⟨rfl, rfl, Nat.le_of_ble_eq_true rfl, Nat.le_of_ble_eq_true rfl⟩ hT rfl hl.1 rfl (Nat.le_of_ble_eq_true rfl) dX7_bent_28 ⟨Nat.zero_le _, Nat.zero_le _⟩ hS (fun _ h => h) (fun _ _ h => h) (fun r28 H locs hpo hS => ?_)
        obtain ⟨hT, u28_0⟩ := hpo
        refine lv_iload_n hx hb dX7_bent_31 rfl (lv_at hl 2 rfl) ?_
        refine w_ishl hx hb dX7_bent_32 (fun x32 => ?_)
        refine w_ior hx hb dX7_bent_33 (fun x33 => ?_)
        refine lv_istore_n (lv' := [(1, .int x33), (0, .ref h0), (2, .int y4_2)]) hx hb dX7_bent_34 rfl hl (by decide) rfl (fun ls hl => ?_)
        refine r_iinc (lv' := fun v__ => [(2, .int v__), (1, .int x33), (0, .ref h0)]) hx hb dX7_bent_35 hl (k := 2) rfl (by decide) (fun _ => rfl) ⟨by decide, by decide⟩ (by omega) (by omega) (fun x35 ls e35 hl => ?_)
        refine lv_goto (tgt := 4) hx hb dX7_bent_38 (by decide) ?_
        exact ih4 ls _ _ x33 x35 _ (by omega) (by omega) hwf hvis hT hS (lv_sub hl [2, 1, 0] rfl)
  exact J4 (((5 - x2.toInt)).toNat + 1) ls _ _ x0 x2 _ (by omega) (by omega) hwf hvis hT hS (lv_sub hl [2, 1, 0] rfl)
theorem k_X7_heights : cBV yX7_heights cX7_heights 4 (some .int) 1 := ⟨mw_5_213, mw_5_214, mw_1_8, mw_5_215, ⟨by decide, by decide, by decide⟩⟩
set_option maxHeartbeats 4000000 in
set_option maxRecDepth 100000 in
theorem c_X7_heights (l : Launch) (z : Zt) (v : Nat → Nat → Int) (h0 o0 : Nat) (g0 : zG z h0 = (17, o0)) (p1 : Int32) : Met l yX7_heights (uw yX7_heights cX7_heights 4 (some .int)) (rmF 9 246) (PcW z [.ref h0, .int p1] (fun H => WX z v H)) (QcI z (fun r H => WX z v H)) 0 0 (zA z) := by
  refine Met.ofW (cc := cX7_heights) (maxL := 4) (ret := (some .int)) (by decide) rfl ?_
  intro p e s m args below meth c s₁ B hml hv
  obtain ⟨rfl, hW, hK, hSK⟩ := hv
  have hx := B.exec
  have hb := B.bytes
  have hr := B.returns
  have hts : ∀ w ∈ lw_ok, w.before ([.ref h0, .int p1] : List Value).toArray s = true := fun w hw => atoms_spec (ws := uw yX7_heights cX7_heights 4 (some .int)) B.pre w (List.mem_cons_of_mem _ hw)
  have hown : s.vm.findClass RX7 = some m.cls := findClass_of_methodNamed B.named
  have hlk := B.notSynchronized
  have hC : CallFix p m c cX7_heights 4 s ([.ref h0, .int p1] : List Value).toArray lw_ok RX7 := ⟨hx, hb, hml, hown, hts⟩
  have hS : va_S (zA z) s.heap s.heap [] := va_S.rf
  have hl := lv_entry ([.ref h0, .int p1]) (n := 4) (Nat.le_of_ble_eq_true rfl)
  rw [lg_entry_eq]
  generalize (lg_sl ([.ref h0, .int p1]) ++ List.replicate (4 - (lg_sl ([.ref h0, .int p1])).length) Slot.unset).toArray = ls at hl ⊢
  have hl : lv_has ls 4 [(0, .ref h0), (1, .int p1)] := hl
  show W p l e (rmF 9 246) s m ([.ref h0, .int p1] : List Value).toArray below meth c s.heap [] 0 0 (MQ below (QcI z (fun r H => WX z v H)) ([.ref h0, .int p1] : List Value).toArray s 0 0 (zA z)) (F0 m 0 ls [])
  obtain ⟨gh, hwf, hvis, hT⟩ := hW
  have mx_p1 := i_mx p1
  refine lv_aload_n hx hb dX7_heights_0 rfl (lv_at hl 0 rfl) ?_
  refine lv_iload_n hx hb dX7_heights_1 rfl (lv_at hl 1 rfl) ?_
  refine cl_Vi (rest := []) hC hK hSK (c_X7_isOne l z gh h0 (o0) g0 p1) k_X7_isOne mw_5_11 ⟨rfl, rfl, Nat.le_of_ble_eq_true rfl, Nat.le_of_ble_eq_true rfl⟩ (rv_Model hK hT g0) hT rfl hl.1 rfl (Nat.le_of_ble_eq_true rfl) dX7_heights_2 ⟨Nat.zero_le _, Nat.zero_le _⟩ hS (fun _ h => h) (fun _ _ h => h) (fun r2 H locs hpo hS => ?_)
  obtain ⟨hT, u2_0, u2_1⟩ := hpo
  refine r_if_ne (tgt := 10) hx hb dX7_heights_5 (by decide) (fun c5 => ?_) (fun c5 => ?_)
  · refine r_iconst hx hb dX7_heights_10 (by decide) (by decide) (fun x10 e10 => ?_)
    refine lv_istore_n (lv' := [(2, .int x10), (0, .ref h0), (1, .int p1)]) hx hb dX7_heights_11 rfl hl (by decide) rfl (fun ls hl => ?_)
    refine r_iconst hx hb dX7_heights_12 (by decide) (by decide) (fun x12 e12 => ?_)
    refine lv_istore_n (lv' := [(3, .int x12), (2, .int x10), (0, .ref h0), (1, .int p1)]) hx hb dX7_heights_13 rfl hl (by decide) rfl (fun ls hl => ?_)
    have J14 : ∀ (n14 : Nat) (ls : Array Slot) (H : Heap) (locs : List Loc) (y14_2 : Int32) (y14_3 : Int32) (gh : Gh), (0 ≤ y14_3.toInt ∧ y14_3.toInt ≤ 10) → (10 - y14_3.toInt) < (n14 : Int) → wf z gh → vis z gh v → TY z (zA z) gh H → va_S (zA z) s.heap H locs → lv_has ls 4 [(0, .ref h0), (1, .int p1), (2, .int y14_2), (3, .int y14_3)] → W p l e (rmF 9 246) s m ([.ref h0, .int p1] : List Value).toArray below meth c H locs 0 0 (MQ below (QcI z (fun r H => WX z v H)) ([.ref h0, .int p1] : List Value).toArray s 0 0 (zA z)) (F0 m 14 ls []) := by
      intro n14
      induction n14 with
      | zero => intro ls H locs y14_2 y14_3 gh j14_y14_3 mm14 hwf hvis hT hS hl; exfalso; omega
      | succ n14 ih14 =>
        intro ls H locs y14_2 y14_3 gh j14_y14_3 mm14 hwf hvis hT hS hl
        refine lv_iload_n hx hb dX7_heights_14 rfl (lv_at hl 3 rfl) ?_
        refine r_bipush hx hb dX7_heights_15 rfl (fun x15 e15 => ?_)
        refine r_icmp_gt (tgt := 49) hx hb dX7_heights_17 (by decide) (fun c17 => ?_) (fun c17 => ?_)
        · refine lv_iload_n hx hb dX7_heights_49 rfl (lv_at hl 2 rfl) ?_
          exact rt_i hx hb hr hlk hS ⟨_, hwf, hvis, hT⟩ dX7_heights_50
        · refine lv_aload_n hx hb dX7_heights_20 rfl (lv_at hl 0 rfl) ?_
          refine cl_Vv (rest := []) hC hK hSK (c_X7_starts l z gh h0 (o0) g0 hwf) k_X7_starts mw_4_229 ⟨rfl, rfl, Nat.le_of_ble_eq_true rfl, Nat.le_of_ble_eq_true rfl⟩ (rv_Model hK hT g0) hT rfl hl.1 rfl (Nat.le_of_ble_eq_true rfl) dX7_heights_21 ⟨Nat.zero_le _, Nat.zero_le _⟩ hS (fun _ h => h) (fun _ _ h => h) (fun H locs hpo hS => ?_)
          obtain ⟨gh21, hz21, hst21, hnow, hT⟩ := hpo
          have hwf := wf_ne hz21 hwf
          have hvis := vis_ne hz21 hvis
          have r41_21 := hz21 h0 41 (by decide) (by decide)
          refine lv_aload_n hx hb dX7_heights_24 rfl (lv_at hl 0 rfl) ?_
          refine lv_iload_n hx hb dX7_heights_25 rfl (lv_at hl 1 rfl) ?_
          refine r_iconst hx hb dX7_heights_26 (by decide) (by decide) (fun x26 e26 => ?_)
          refine lv_iload_n hx hb dX7_heights_27 rfl (lv_at hl 3 rfl) ?_
          refine cl_Vv (rest := []) hC hK hSK (c_X7_becomesOf l z gh21 h0 (o0) g0 p1 x26 y14_3 (by omega) (by omega) (by omega)) k_X7_becomesOf mw_5_100 ⟨rfl, rfl, Nat.le_of_ble_eq_true rfl, Nat.le_of_ble_eq_true rfl⟩ (rv_Model hK hT g0) hT rfl hl.1 rfl (Nat.le_of_ble_eq_true rfl) dX7_heights_28 ⟨Nat.zero_le _, Nat.zero_le _⟩ hS (fun _ h => h) (fun _ _ h => h) (fun H locs hpo hS => ?_)
          obtain ⟨gh28, hz28, hT⟩ := hpo
          have hst28 := hz28.2
          have hz28 := eqv_eq hz28.1
          have hwf := wf_of hz28 hwf
          have hvis := vis_of hz28 hvis
          have hnow := nowOK_of hz28 hnow
          have r41_28 := hz28 h0 41 rfl
          refine lv_iload_n hx hb dX7_heights_31 rfl (lv_at hl 2 rfl) ?_
          refine lv_aload_n hx hb dX7_heights_32 rfl (lv_at hl 0 rfl) ?_
          refine cl_Vi (rest := [.int y14_2]) hC hK hSK (c_X7_isSo l z v h0 (o0) g0) k_X7_isSo mw_5_208 ⟨rfl, rfl, Nat.le_of_ble_eq_true rfl, Nat.le_of_ble_eq_true rfl⟩ (rv_Model hK hT g0) ⟨_, hwf, hvis, hnow, hT⟩ rfl hl.1 rfl (Nat.le_of_ble_eq_true rfl) dX7_heights_33 ⟨Nat.zero_le _, Nat.zero_le _⟩ hS (fun _ h => h) (fun _ _ h => h) (fun r33 H locs hpo hS => ?_)
          obtain ⟨⟨gh33, hwf, hvis, hnow, hT⟩, u33_0⟩ := hpo
          refine cl_Si (rest := [.int y14_2]) hC hK hSK (c_X7_flag l z gh33 r33 (by omega)) k_X7_flag mw_5_4 ⟨rfl, rfl, Nat.le_of_ble_eq_true rfl, Nat.le_of_ble_eq_true rfl⟩ hT rfl hl.1 rfl (Nat.le_of_ble_eq_true rfl) dX7_heights_36 ⟨Nat.zero_le _, Nat.zero_le _⟩ hS (fun _ h => h) (fun _ _ h => h) (fun r36 H locs hpo hS => ?_)
          obtain ⟨hT, u36_0⟩ := hpo
          refine lv_iload_n hx hb dX7_heights_39 rfl (lv_at hl 3 rfl) ?_
          refine w_ishl hx hb dX7_heights_40 (fun x40 => ?_)
          refine w_ior hx hb dX7_heights_41 (fun x41 => ?_)
          refine lv_istore_n (lv' := [(2, .int x41), (0, .ref h0), (1, .int p1), (3, .int y14_3)]) hx hb dX7_heights_42 rfl hl (by decide) rfl (fun ls hl => ?_)
          refine r_iinc (lv' := fun v__ => [(3, .int v__), (2, .int x41), (0, .ref h0), (1, .int p1)]) hx hb dX7_heights_43 hl (k := 3) rfl (by decide) (fun _ => rfl) ⟨by decide, by decide⟩ (by omega) (by omega) (fun x43 ls e43 hl => ?_)
          refine lv_goto (tgt := 14) hx hb dX7_heights_46 (by decide) ?_
          exact ih14 ls _ _ x41 x43 _ (by omega) (by omega) hwf hvis hT hS (lv_sub hl [2, 3, 1, 0] rfl)
    exact J14 (((10 - x12.toInt)).toNat + 1) ls _ _ x10 x12 _ (by omega) (by omega) hwf hvis hT hS (lv_sub hl [2, 3, 1, 0] rfl)
  · refine r_iconst hx hb dX7_heights_8 (by decide) (by decide) (fun x8 e8 => ?_)
    exact rt_i hx hb hr hlk hS ⟨_, hwf, hvis, hT⟩ dX7_heights_9
theorem k_X7_shoes : cBV yX7_shoes cX7_shoes 8 (some .int) 1 := ⟨mw_5_217, mw_5_218, mw_1_8, mw_5_219, ⟨by decide, by decide, by decide⟩⟩
set_option maxHeartbeats 4000000 in
set_option maxRecDepth 100000 in
theorem c_X7_shoes (l : Launch) (z : Zt) (v : Nat → Nat → Int) (h0 o0 : Nat) (g0 : zG z h0 = (17, o0)) (p1 : Int32) : Met l yX7_shoes (uw yX7_shoes cX7_shoes 8 (some .int)) (rmF 9 246) (PcW z [.ref h0, .int p1] (fun H => WX z v H)) (QcI z (fun r H => WX z v H)) 0 0 (zA z) := by
  refine Met.ofW (cc := cX7_shoes) (maxL := 8) (ret := (some .int)) (by decide) rfl ?_
  intro p e s m args below meth c s₁ B hml hv
  obtain ⟨rfl, hW, hK, hSK⟩ := hv
  have hx := B.exec
  have hb := B.bytes
  have hr := B.returns
  have hts : ∀ w ∈ lw_ok, w.before ([.ref h0, .int p1] : List Value).toArray s = true := fun w hw => atoms_spec (ws := uw yX7_shoes cX7_shoes 8 (some .int)) B.pre w (List.mem_cons_of_mem _ hw)
  have hown : s.vm.findClass RX7 = some m.cls := findClass_of_methodNamed B.named
  have hlk := B.notSynchronized
  have hC : CallFix p m c cX7_shoes 8 s ([.ref h0, .int p1] : List Value).toArray lw_ok RX7 := ⟨hx, hb, hml, hown, hts⟩
  have hS : va_S (zA z) s.heap s.heap [] := va_S.rf
  have hl := lv_entry ([.ref h0, .int p1]) (n := 8) (Nat.le_of_ble_eq_true rfl)
  rw [lg_entry_eq]
  generalize (lg_sl ([.ref h0, .int p1]) ++ List.replicate (8 - (lg_sl ([.ref h0, .int p1])).length) Slot.unset).toArray = ls at hl ⊢
  have hl : lv_has ls 8 [(0, .ref h0), (1, .int p1)] := hl
  show W p l e (rmF 9 246) s m ([.ref h0, .int p1] : List Value).toArray below meth c s.heap [] 0 0 (MQ below (QcI z (fun r H => WX z v H)) ([.ref h0, .int p1] : List Value).toArray s 0 0 (zA z)) (F0 m 0 ls [])
  obtain ⟨gh, hwf, hvis, hT⟩ := hW
  have mx_p1 := i_mx p1
  refine lv_iload_n hx hb dX7_shoes_0 rfl (lv_at hl 1 rfl) ?_
  refine cl_Si (rest := []) hC hK hSK (c_X7_isPart l z gh p1) k_X7_isPart mw_5_152 ⟨rfl, rfl, Nat.le_of_ble_eq_true rfl, Nat.le_of_ble_eq_true rfl⟩ hT rfl hl.1 rfl (Nat.le_of_ble_eq_true rfl) dX7_shoes_1 ⟨Nat.zero_le _, Nat.zero_le _⟩ hS (fun _ h => h) (fun _ _ h => h) (fun r1 H locs hpo hS => ?_)
  obtain ⟨hT, u1_0, u1_1, u1_2⟩ := hpo
  refine r_if_ne (tgt := 9) hx hb dX7_shoes_4 (by decide) (fun c4 => ?_) (fun c4 => ?_)
  · refine r_iconst hx hb dX7_shoes_9 (by decide) (by decide) (fun x9 e9 => ?_)
    refine lv_istore_n (lv' := [(2, .int x9), (0, .ref h0), (1, .int p1)]) hx hb dX7_shoes_10 rfl hl (by decide) rfl (fun ls hl => ?_)
    refine r_bipush hx hb dX7_shoes_11 rfl (fun x11 e11 => ?_)
    refine lv_istore_n (lv' := [(3, .int x11), (2, .int x9), (0, .ref h0), (1, .int p1)]) hx hb dX7_shoes_13 rfl hl (by decide) rfl (fun ls hl => ?_)
    refine r_iconst hx hb dX7_shoes_14 (by decide) (by decide) (fun x14 e14 => ?_)
    refine lv_istore (lv' := [(4, .int x14), (3, .int x11), (2, .int x9), (0, .ref h0), (1, .int p1)]) hx hb dX7_shoes_15 hl (by decide) rfl (fun ls hl => ?_)
    have J17 : ∀ (n17 : Nat) (ls : Array Slot) (H : Heap) (locs : List Loc) (y17_2 : Int32) (y17_3 : Int32) (y17_4 : Int32) (gh : Gh), (-4 ≤ y17_3.toInt ∧ y17_3.toInt ≤ 44) → (0 ≤ y17_4.toInt ∧ y17_4.toInt ≤ 5) → (5 - y17_4.toInt) < (n17 : Int) → wf z gh → vis z gh v → TY z (zA z) gh H → va_S (zA z) s.heap H locs → lv_has ls 8 [(0, .ref h0), (1, .int p1), (2, .int y17_2), (3, .int y17_3), (4, .int y17_4)] → W p l e (rmF 9 246) s m ([.ref h0, .int p1] : List Value).toArray below meth c H locs 0 0 (MQ below (QcI z (fun r H => WX z v H)) ([.ref h0, .int p1] : List Value).toArray s 0 0 (zA z)) (F0 m 17 ls []) := by
      intro n17
      induction n17 with
      | zero => intro ls H locs y17_2 y17_3 y17_4 gh j17_y17_3 j17_y17_4 mm17 hwf hvis hT hS hl; exfalso; omega
      | succ n17 ih17 =>
        intro ls H locs y17_2 y17_3 y17_4 gh j17_y17_3 j17_y17_4 mm17 hwf hvis hT hS hl
        refine lv_iload hx hb dX7_shoes_17 (lv_at hl 4 rfl) ?_
        refine lv_aload_n hx hb dX7_shoes_19 rfl (lv_at hl 0 rfl) ?_
        refine gt_Model_men hx hb hts ic_Model hown hK hT g0 (hts _ mw_4_73) dX7_shoes_20 (fun x20 i20 e20 g20 => ?_)
        refine r_icmp_ge (tgt := 125) hx hb dX7_shoes_23 (by decide) (fun c23 => ?_) (fun c23 => ?_)
        · refine lv_iload_n hx hb dX7_shoes_125 rfl (lv_at hl 1 rfl) ?_
          refine r_if_ne (tgt := 133) hx hb dX7_shoes_126 (by decide) (fun c126 => ?_) (fun c126 => ?_)
          · refine lv_iload_n hx hb dX7_shoes_133 rfl (lv_at hl 2 rfl) ?_
            exact rt_i hx hb hr hlk hS ⟨_, hwf, hvis, hT⟩ dX7_shoes_134
          · refine lv_iload_n hx hb dX7_shoes_129 rfl (lv_at hl 3 rfl) ?_
            refine lv_goto (tgt := 134) hx hb dX7_shoes_130 (by decide) ?_
            exact rt_i hx hb hr hlk hS ⟨_, hwf, hvis, hT⟩ dX7_shoes_134
        · refine lv_iload hx hb dX7_shoes_26 (lv_at hl 4 rfl) ?_
          refine r_iconst hx hb dX7_shoes_28 (by decide) (by decide) (fun x28 e28 => ?_)
          refine r_iadd hx hb dX7_shoes_29 (by omega) (by omega) (fun x29 e29 => ?_)
          refine lv_istore (lv' := [(5, .int x29), (0, .ref h0), (1, .int p1), (2, .int y17_2), (3, .int y17_3), (4, .int y17_4)]) hx hb dX7_shoes_30 hl (by decide) rfl (fun ls hl => ?_)
          have J32 : ∀ (n32 : Nat) (ls : Array Slot) (H : Heap) (locs : List Loc) (y32_2 : Int32) (y32_3 : Int32) (y32_5 : Int32) (gh : Gh), (-4 ≤ y32_3.toInt ∧ y32_3.toInt ≤ 44) → (1 ≤ y32_5.toInt ∧ y32_5.toInt ≤ 5) → (5 - y17_4.toInt) < ((n17 + 1 : Nat) : Int) → (5 - y32_5.toInt) < (n32 : Int) → wf z gh → vis z gh v → TY z (zA z) gh H → va_S (zA z) s.heap H locs → lv_has ls 8 [(0, .ref h0), (1, .int p1), (2, .int y32_2), (3, .int y32_3), (4, .int y17_4), (5, .int y32_5)] → W p l e (rmF 9 246) s m ([.ref h0, .int p1] : List Value).toArray below meth c H locs 0 0 (MQ below (QcI z (fun r H => WX z v H)) ([.ref h0, .int p1] : List Value).toArray s 0 0 (zA z)) (F0 m 32 ls []) := by
            intro n32
            induction n32 with
            | zero => intro ls H locs y32_2 y32_3 y32_5 gh j32_y32_3 j32_y32_5 mf32_17 mm32 hwf hvis hT hS hl; exfalso; omega
            | succ n32 ih32 =>
              intro ls H locs y32_2 y32_3 y32_5 gh j32_y32_3 j32_y32_5 mf32_17 mm32 hwf hvis hT hS hl
              refine lv_iload hx hb dX7_shoes_32 (lv_at hl 5 rfl) ?_
              refine lv_aload_n hx hb dX7_shoes_34 rfl (lv_at hl 0 rfl) ?_
              refine gt_Model_men hx hb hts ic_Model hown hK hT g0 (hts _ mw_4_73) dX7_shoes_35 (fun x35 i35 e35 g35 => ?_)
              refine r_icmp_ge (tgt := 119) hx hb dX7_shoes_38 (by decide) (fun c38 => ?_) (fun c38 => ?_)
              · refine r_iinc (lv' := fun v__ => [(4, .int v__), (0, .ref h0), (1, .int p1), (2, .int y32_2), (3, .int y32_3), (5, .int y32_5)]) hx hb dX7_shoes_119 hl (k := 4) rfl (by decide) (fun _ => rfl) ⟨by decide, by decide⟩ (by omega) (by omega) (fun x119 ls e119 hl => ?_)
                refine lv_goto (tgt := 17) hx hb dX7_shoes_122 (by decide) ?_
                exact ih17 ls _ _ y32_2 y32_3 x119 _ (by omega) (by omega) (by omega) hwf hvis hT hS (lv_sub hl [1, 2, 3, 4, 0] rfl)
              · refine lv_aload_n hx hb dX7_shoes_41 rfl (lv_at hl 0 rfl) ?_
                refine cl_Vv (rest := []) hC hK hSK (c_X7_starts l z gh h0 (o0) g0 hwf) k_X7_starts mw_4_229 ⟨rfl, rfl, Nat.le_of_ble_eq_true rfl, Nat.le_of_ble_eq_true rfl⟩ (rv_Model hK hT g0) hT rfl hl.1 rfl (Nat.le_of_ble_eq_true rfl) dX7_shoes_42 ⟨Nat.zero_le _, Nat.zero_le _⟩ hS (fun _ h => h) (fun _ _ h => h) (fun H locs hpo hS => ?_)
                obtain ⟨gh42, hz42, hst42, hnow, hT⟩ := hpo
                have hwf := wf_ne hz42 hwf
                have hvis := vis_ne hz42 hvis
                have r41_42 := hz42 h0 41 (by decide) (by decide)
                refine lv_aload_n hx hb dX7_shoes_45 rfl (lv_at hl 0 rfl) ?_
                refine lv_iload hx hb dX7_shoes_46 (lv_at hl 4 rfl) ?_
                refine r_iconst hx hb dX7_shoes_48 (by decide) (by decide) (fun x48 e48 => ?_)
                refine cl_Vi (rest := []) hC hK hSK (c_X7_of l z gh42 h0 (o0) g0 y17_4 x48 (by omega) (by omega) hwf.2.2) k_X7_of mw_5_15 ⟨rfl, rfl, Nat.le_of_ble_eq_true rfl, Nat.le_of_ble_eq_true rfl⟩ (rv_Model hK hT g0) hT rfl hl.1 rfl (Nat.le_of_ble_eq_true rfl) dX7_shoes_49 ⟨Nat.zero_le _, Nat.zero_le _⟩ hS (fun _ h => h) (fun _ _ h => h) (fun r49 H locs hpo hS => ?_)
                obtain ⟨hT, u49_0, u49_1⟩ := hpo
                refine lv_istore (lv' := [(6, .int r49), (0, .ref h0), (1, .int p1), (2, .int y32_2), (3, .int y32_3), (4, .int y17_4), (5, .int y32_5)]) hx hb dX7_shoes_52 hl (by decide) rfl (fun ls hl => ?_)
                refine lv_aload_n hx hb dX7_shoes_54 rfl (lv_at hl 1 rfl) ?_
                refine lv_iload hx hb dX7_shoes_55 (lv_at hl 5 rfl) ?_
                refine r_iconst hx hb dX7_shoes_57 (by decide) (by decide) (fun x57 e57 => ?_)
                refine lv_aload_n hx hb dX7_shoes_58 rfl (lv_at hl 1 rfl) ?_
                refine lv_iload hx hb dX7_shoes_59 (lv_at hl 6 rfl) ?_
                refine r_iconst hx hb dX7_shoes_61 (by decide) (by decide) (fun x61 e61 => ?_)
                refine cl_Vi (rest := [.int x57, .int y17_4, .ref h0]) hC hK hSK (c_X7_of l z gh42 h0 (o0) g0 y32_5 x61 (by omega) (by omega) hwf.2.2) k_X7_of mw_5_15 ⟨rfl, rfl, Nat.le_of_ble_eq_true rfl, Nat.le_of_ble_eq_true rfl⟩ (rv_Model hK hT g0) hT rfl hl.1 rfl (Nat.le_of_ble_eq_true rfl) dX7_shoes_62 ⟨Nat.zero_le _, Nat.zero_le _⟩ hS (fun _ h => h) (fun _ _ h => h) (fun r62 H locs hpo hS => ?_)
                obtain ⟨hT, u62_0, u62_1⟩ := hpo
                refine cl_Vv (rest := []) hC hK hSK (c_X7_becomesOf l z gh42 h0 (o0) g0 y17_4 x57 r62 (by omega) (by omega) (by omega)) k_X7_becomesOf mw_5_100 ⟨rfl, rfl, Nat.le_of_ble_eq_true rfl, Nat.le_of_ble_eq_true rfl⟩ (rv_Model hK hT g0) hT rfl hl.1 rfl (Nat.le_of_ble_eq_true rfl) dX7_shoes_65 ⟨Nat.zero_le _, Nat.zero_le _⟩ hS (fun _ h => h) (fun _ _ h => h) (fun H locs hpo hS => ?_)
                obtain ⟨gh65, hz65, hT⟩ := hpo
                have hst65 := hz65.2
                have hz65 := eqv_eq hz65.1
                have hwf := wf_of hz65 hwf
                have hvis := vis_of hz65 hvis
                have hnow := nowOK_of hz65 hnow
                have r41_65 := hz65 h0 41 rfl
                refine lv_aload_n hx hb dX7_shoes_68 rfl (lv_at hl 1 rfl) ?_
                refine lv_iload hx hb dX7_shoes_69 (lv_at hl 6 rfl) ?_
                refine r_iconst hx hb dX7_shoes_71 (by decide) (by decide) (fun x71 e71 => ?_)
                refine lv_iload hx hb dX7_shoes_72 (lv_at hl 0 rfl) ?_
                refine cl_Vv (rest := []) hC hK hSK (c_X7_becomesOf l z gh65 h0 (o0) g0 y32_5 x71 r49 (by omega) (by omega) (by omega)) k_X7_becomesOf mw_5_100 ⟨rfl, rfl, Nat.le_of_ble_eq_true rfl, Nat.le_of_ble_eq_true rfl⟩ (rv_Model hK hT g0) hT rfl hl.1 rfl (Nat.le_of_ble_eq_true rfl) dX7_shoes_74 ⟨Nat.zero_le _, Nat.zero_le _⟩ hS (fun _ h => h) (fun _ _ h => h) (fun H locs hpo hS => ?_)
                obtain ⟨gh74, hz74, hT⟩ := hpo
                have hst74 := hz74.2
                have hz74 := eqv_eq hz74.1
                have hwf := wf_of hz74 hwf
                have hvis := vis_of hz74 hvis
                have hnow := nowOK_of hz74 hnow
                have r41_74 := hz74 h0 41 rfl
                refine lv_aload_n hx hb dX7_shoes_77 rfl (lv_at hl 1 rfl) ?_
                refine cl_Vi (rest := []) hC hK hSK (c_X7_isSo l z v h0 (o0) g0) k_X7_isSo mw_5_208 ⟨rfl, rfl, Nat.le_of_ble_eq_true rfl, Nat.le_of_ble_eq_true rfl⟩ (rv_Model hK hT g0) ⟨_, hwf, hvis, hnow, hT⟩ rfl hl.1 rfl (Nat.le_of_ble_eq_true rfl) dX7_shoes_78 ⟨Nat.zero_le _, Nat.zero_le _⟩ hS (fun _ h => h) (fun _ _ h => h) (fun r78 H locs hpo hS => ?_)
                obtain ⟨⟨gh78, hwf, hvis, hnow, hT⟩, u78_0⟩ := hpo
                refine lv_istore (lv' := [(7, .int r78), (6, .int r49), (0, .ref h0), (1, .int p1), (2, .int y32_2), (3, .int y32_3), (4, .int y17_4), (5, .int y32_5)]) hx hb dX7_shoes_81 hl (by decide) rfl (fun ls hl => ?_)
                refine lv_iload hx hb dX7_shoes_83 (lv_at hl 0 rfl) ?_
                have J104 : ∀ (ls : Array Slot) (H : Heap) (locs : List Loc) (t104_0 : Int32) (gh : Gh), (-4 ≤ t104_0.toInt ∧ t104_0.toInt ≤ 44) → (5 - y17_4.toInt) < ((n17 + 1 : Nat) : Int) → (5 - y32_5.toInt) < ((n32 + 1 : Nat) : Int) → wf z gh → vis z gh v → nowOK (gh.1 h0) → TY z (zA z) gh H → va_S (zA z) s.heap H locs → lv_has ls 8 [(0, .ref h0), (1, .int p1), (2, .int y32_2), (3, .int y32_3), (4, .int y17_4), (5, .int y32_5), (6, .int r49), (7, .int r78)] → W p l e (rmF 9 246) s m ([.ref h0, .int p1] : List Value).toArray below meth c H locs 0 0 (MQ below (QcI z (fun r H => WX z v H)) ([.ref h0, .int p1] : List Value).toArray s 0 0 (zA z)) (F0 m 104 ls [.int t104_0]) := by
                  intro ls H locs t104_0 gh j104_t104_0 mf104_17 mf104_32 hwf hvis hnow hT hS hl
                  refine lv_istore_n (lv' := [(3, .int t104_0), (0, .ref h0), (1, .int p1), (2, .int y32_2), (4, .int y17_4), (5, .int y32_5), (6, .int r49), (7, .int r78)]) hx hb dX7_shoes_104 rfl hl (by decide) rfl (fun ls hl => ?_)
                  refine lv_iload_n hx hb dX7_shoes_105 rfl (lv_at hl 3 rfl) ?_
                  refine lv_iload hx hb dX7_shoes_106 (lv_at hl 7 rfl) ?_
                  refine cl_Si (rest := [.int y32_2]) hC hK hSK (c_X7_flag l z gh r78 (by omega)) k_X7_flag mw_5_4 ⟨rfl, rfl, Nat.le_of_ble_eq_true rfl, Nat.le_of_ble_eq_true rfl⟩ hT rfl hl.1 rfl (Nat.le_of_ble_eq_true rfl) dX7_shoes_108 ⟨Nat.zero_le _, Nat.zero_le _⟩ hS (fun _ h => h) (fun _ _ h => h) (fun r108 H locs hpo hS => ?_)
                  obtain ⟨hT, u108_0⟩ := hpo
                  refine w_iadd hx hb dX7_shoes_111 (fun x111 => ?_)
                  refine lv_istore_n (lv' := [(2, .int x111), (3, .int t104_0), (0, .ref h0), (1, .int p1), (4, .int y17_4), (5, .int y32_5), (6, .int r49), (7, .int r78)]) hx hb dX7_shoes_112 rfl hl (by decide) rfl (fun ls hl => ?_)
                  refine r_iinc (lv' := fun v__ => [(5, .int v__), (2, .int x111), (3, .int t104_0), (0, .ref h0), (1, .int p1), (4, .int y17_4), (6, .int r49), (7, .int r78)]) hx hb dX7_shoes_113 hl (k := 5) rfl (by decide) (fun _ => rfl) ⟨by decide, by decide⟩ (by omega) (by omega) (fun x113 ls e113 hl => ?_)
                  refine lv_goto (tgt := 32) hx hb dX7_shoes_116 (by decide) ?_
                  exact ih32 ls _ _ x111 t104_0 x113 _ (by omega) (by omega) (by omega) (by omega) hwf hvis hT hS (lv_sub hl [3, 4, 1, 2, 5, 0] rfl)
                have J103 : ∀ (ls : Array Slot) (H : Heap) (locs : List Loc) (gh : Gh), (5 - y17_4.toInt) < ((n17 + 1 : Nat) : Int) → (5 - y32_5.toInt) < ((n32 + 1 : Nat) : Int) → wf z gh → vis z gh v → nowOK (gh.1 h0) → TY z (zA z) gh H → va_S (zA z) s.heap H locs → lv_has ls 8 [(0, .ref h0), (1, .int p1), (2, .int y32_2), (3, .int y32_3), (4, .int y17_4), (5, .int y32_5), (6, .int r49), (7, .int r78)] → W p l e (rmF 9 246) s m ([.ref h0, .int p1] : List Value).toArray below meth c H locs 0 0 (MQ below (QcI z (fun r H => WX z v H)) ([.ref h0, .int p1] : List Value).toArray s 0 0 (zA z)) (F0 m 103 ls []) := by
                  intro ls H locs gh mf103_17 mf103_32 hwf hvis hnow hT hS hl
                  refine lv_iload_n hx hb dX7_shoes_103 rfl (lv_at hl 3 rfl) ?_
                  exact J104 ls _ _ y32_3 _ (by omega) (by omega) (by omega) hwf hvis hnow hT hS (lv_sub hl [0, 1, 2, 3, 4, 5, 6, 7] rfl)
                refine r_if_eq (tgt := 103) hx hb dX7_shoes_85 (by decide) (fun c85 => ?_) (fun c85 => ?_)
                · exact J103 ls _ _ _ (by omega) (by omega) hwf hvis hnow hT hS (lv_sub hl [2, 3, 4, 5, 6, 7, 1, 0] rfl)
                · refine lv_iload_n hx hb dX7_shoes_88 rfl (lv_at hl 4 rfl) ?_
                  refine r_if_ne (tgt := 103) hx hb dX7_shoes_89 (by decide) (fun c89 => ?_) (fun c89 => ?_)
                  · exact J103 ls _ _ _ (by omega) (by omega) hwf hvis hnow hT hS (lv_sub hl [2, 3, 4, 5, 6, 7, 1, 0] rfl)
                  · refine r_bipush hx hb dX7_shoes_92 rfl (fun x92 e92 => ?_)
                    refine lv_iload hx hb dX7_shoes_94 (lv_at hl 6 rfl) ?_
                    refine r_imulL (10) (by omega) hx hb dX7_shoes_96 (by omega) (by omega) (fun x96 e96 => ?_)
                    refine lv_iload hx hb dX7_shoes_97 (lv_at hl 7 rfl) ?_
                    refine r_iadd hx hb dX7_shoes_99 (by omega) (by omega) (fun x99 e99 => ?_)
                    refine lv_goto (tgt := 104) hx hb dX7_shoes_100 (by decide) ?_
                    exact J104 ls _ _ x99 _ (by omega) (by omega) (by omega) hwf hvis hnow hT hS (lv_sub hl [2, 3, 4, 5, 6, 7, 1, 0] rfl)
          exact J32 (((5 - x29.toInt)).toNat + 1) ls _ _ y17_2 y17_3 x29 _ (by omega) (by omega) (by omega) (by omega) hwf hvis hT hS (lv_sub hl [1, 2, 3, 4, 5, 0] rfl)
    exact J17 (((5 - x14.toInt)).toNat + 1) ls _ _ x9 x11 x14 _ (by omega) (by omega) (by omega) hwf hvis hT hS (lv_sub hl [3, 4, 2, 1, 0] rfl)
  · refine r_iconst hx hb dX7_shoes_7 (by decide) (by decide) (fun x7 e7 => ?_)
    exact rt_i hx hb hr hlk hS ⟨_, hwf, hvis, hT⟩ dX7_shoes_8
theorem k_X7_drift : cBV yX7_drift cX7_drift 7 (some .int) 3 := ⟨mw_5_221, mw_5_222, mw_1_8, mw_5_223, ⟨by decide, by decide, by decide⟩⟩
set_option maxHeartbeats 4000000 in
set_option maxRecDepth 100000 in
theorem c_X7_drift (l : Launch) (z : Zt) (v : Nat → Nat → Int) (h0 o0 : Nat) (g0 : zG z h0 = (17, o0)) (p1 : Int32) (p2 : Int32) (p3 : Int32) : Met l yX7_drift (uw yX7_drift cX7_drift 7 (some .int)) (rmF 8 222) (PcW z [.ref h0, .int p1, .int p2, .int p3] (fun H => WX z v H)) (QcI z (fun r H => WX z v H)) 0 0 (zA z) := by
  refine Met.ofW (cc := cX7_drift) (maxL := 7) (ret := (some .int)) (by decide) rfl ?_
  intro p e s m args below meth c s₁ B hml hv
  obtain ⟨rfl, hW, hK, hSK⟩ := hv
  have hx := B.exec
  have hb := B.bytes
  have hr := B.returns
  have hts : ∀ w ∈ lw_ok, w.before ([.ref h0, .int p1, .int p2, .int p3] : List Value).toArray s = true := fun w hw => atoms_spec (ws := uw yX7_drift cX7_drift 7 (some .int)) B.pre w (List.mem_cons_of_mem _ hw)
  have hown : s.vm.findClass RX7 = some m.cls := findClass_of_methodNamed B.named
  have hlk := B.notSynchronized
  have hC : CallFix p m c cX7_drift 7 s ([.ref h0, .int p1, .int p2, .int p3] : List Value).toArray lw_ok RX7 := ⟨hx, hb, hml, hown, hts⟩
  have hS : va_S (zA z) s.heap s.heap [] := va_S.rf
  have hl := lv_entry ([.ref h0, .int p1, .int p2, .int p3]) (n := 7) (Nat.le_of_ble_eq_true rfl)
  rw [lg_entry_eq]
  generalize (lg_sl ([.ref h0, .int p1, .int p2, .int p3]) ++ List.replicate (7 - (lg_sl ([.ref h0, .int p1, .int p2, .int p3])).length) Slot.unset).toArray = ls at hl ⊢
  have hl : lv_has ls 7 [(0, .ref h0), (1, .int p1), (2, .int p2), (3, .int p3)] := hl
  show W p l e (rmF 8 222) s m ([.ref h0, .int p1, .int p2, .int p3] : List Value).toArray below meth c s.heap [] 0 0 (MQ below (QcI z (fun r H => WX z v H)) ([.ref h0, .int p1, .int p2, .int p3] : List Value).toArray s 0 0 (zA z)) (F0 m 0 ls [])
  obtain ⟨gh, hwf, hvis, hT⟩ := hW
  have mx_p1 := i_mx p1
  have mx_p2 := i_mx p2
  have mx_p3 := i_mx p3
  refine lv_iload_n hx hb dX7_drift_0 rfl (lv_at hl 2 rfl) ?_
  refine r_i2l hx hb dX7_drift_1 (fun x1 e1 => ?_)
  refine r_lconst1 hx hb dX7_drift_2 (fun x2 e2 => ?_)
  refine r_ldc2 (60) rfl hx hb hts hown mw_5_224 dX7_drift_3 (fun x3 e3 => ?_)
  refine cl_Si (rest := []) hC hK hSK (c_X7_in l z gh x1 x2 x3) k_X7_in mw_4_154 ⟨rfl, rfl, Nat.le_of_ble_eq_true rfl, Nat.le_of_ble_eq_true rfl⟩ hT rfl hl.1 rfl (Nat.le_of_ble_eq_true rfl) dX7_drift_6 ⟨Nat.zero_le _, Nat.zero_le _⟩ hS (fun _ h => h) (fun _ _ h => h) (fun r6 H locs hpo hS => ?_)
  obtain ⟨hT, u6_0, u6_1⟩ := hpo
  refine r_if_eq (tgt := 19) hx hb dX7_drift_9 (by decide) (fun c9 => ?_) (fun c9 => ?_)
  · refine r_iconst hx hb dX7_drift_19 (by decide) (by decide) (fun x19 e19 => ?_)
    exact rt_i hx hb hr hlk hS ⟨_, hwf, hvis, hT⟩ dX7_drift_20
  · refine lv_iload_n hx hb dX7_drift_12 rfl (lv_at hl 3 rfl) ?_
    refine cl_Si (rest := []) hC hK hSK (c_X7_isPart l z gh p3) k_X7_isPart mw_5_152 ⟨rfl, rfl, Nat.le_of_ble_eq_true rfl, Nat.le_of_ble_eq_true rfl⟩ hT rfl hl.1 rfl (Nat.le_of_ble_eq_true rfl) dX7_drift_13 ⟨Nat.zero_le _, Nat.zero_le _⟩ hS (fun _ h => h) (fun _ _ h => h) (fun r13 H locs hpo hS => ?_)
    obtain ⟨hT, u13_0, u13_1, u13_2⟩ := hpo
    refine r_if_ne (tgt := 21) hx hb dX7_drift_16 (by decide) (fun c16 => ?_) (fun c16 => ?_)
    · refine lv_aload_n hx hb dX7_drift_21 rfl (lv_at hl 0 rfl) ?_
      refine gt_Model_men hx hb hts ic_Model hown hK hT g0 (hts _ mw_4_73) dX7_drift_22 (fun x22 i22 e22 g22 => ?_)
      refine r_if_ne (tgt := 31) hx hb dX7_drift_25 (by decide) (fun c25 => ?_) (fun c25 => ?_)
      · refine lv_iload_n hx hb dX7_drift_31 rfl (lv_at hl 1 rfl) ?_
        refine lv_istore (lv' := [(4, .int p1), (0, .ref h0), (1, .int p1), (2, .int p2), (3, .int p3)]) hx hb dX7_drift_32 hl (by decide) rfl (fun ls hl => ?_)
        refine r_iconst hx hb dX7_drift_34 (by decide) (by decide) (fun x34 e34 => ?_)
        refine lv_istore (lv' := [(5, .int x34), (4, .int p1), (0, .ref h0), (1, .int p1), (2, .int p2), (3, .int p3)]) hx hb dX7_drift_35 hl (by decide) rfl (fun ls hl => ?_)
        refine lv_aload_n hx hb dX7_drift_37 rfl (lv_at hl 2 rfl) ?_
        refine cl_Vv (rest := []) hC hK hSK (c_X7_starts l z gh h0 (o0) g0 hwf) k_X7_starts mw_4_229 ⟨rfl, rfl, Nat.le_of_ble_eq_true rfl, Nat.le_of_ble_eq_true rfl⟩ (rv_Model hK hT g0) hT rfl hl.1 rfl (Nat.le_of_ble_eq_true rfl) dX7_drift_38 ⟨Nat.zero_le _, Nat.zero_le _⟩ hS (fun _ h => h) (fun _ _ h => h) (fun H locs hpo hS => ?_)
        obtain ⟨gh38, hz38, hst38, hnow, hT⟩ := hpo
        have hwf := wf_ne hz38 hwf
        have hvis := vis_ne hz38 hvis
        have r41_38 := hz38 h0 41 (by decide) (by decide)
        refine r_iconst hx hb dX7_drift_41 (by decide) (by decide) (fun x41 e41 => ?_)
        refine lv_istore (lv' := [(6, .int x41), (5, .int x34), (4, .int p1), (0, .ref h0), (1, .int p1), (2, .int p2), (3, .int p3)]) hx hb dX7_drift_42 hl (by decide) rfl (fun ls hl => ?_)
        have J44 : ∀ (n44 : Nat) (ls : Array Slot) (H : Heap) (locs : List Loc) (y44_4 : Int32) (y44_5 : Int32) (y44_6 : Int32) (gh : Gh), (0 ≤ y44_6.toInt ∧ y44_6.toInt ≤ 60) → (60 - y44_6.toInt) < (n44 : Int) → wf z gh → vis z gh v → nowOK (gh.1 h0) → TY z (zA z) gh H → va_S (zA z) s.heap H locs → lv_has ls 7 [(0, .ref h0), (1, .int p1), (2, .int p2), (3, .int p3), (4, .int y44_4), (5, .int y44_5), (6, .int y44_6)] → W p l e (rmF 8 222) s m ([.ref h0, .int p1, .int p2, .int p3] : List Value).toArray below meth c H locs 0 0 (MQ below (QcI z (fun r H => WX z v H)) ([.ref h0, .int p1, .int p2, .int p3] : List Value).toArray s 0 0 (zA z)) (F0 m 44 ls []) := by
          intro n44
          induction n44 with
          | zero => intro ls H locs y44_4 y44_5 y44_6 gh j44_y44_6 mm44 hwf hvis hnow hT hS hl; exfalso; omega
          | succ n44 ih44 =>
            intro ls H locs y44_4 y44_5 y44_6 gh j44_y44_6 mm44 hwf hvis hnow hT hS hl
            refine lv_iload hx hb dX7_drift_44 (lv_at hl 6 rfl) ?_
            refine lv_iload_n hx hb dX7_drift_46 rfl (lv_at hl 2 rfl) ?_
            refine r_icmp_ge (tgt := 95) hx hb dX7_drift_47 (by decide) (fun c47 => ?_) (fun c47 => ?_)
            · refine lv_iload_n hx hb dX7_drift_95 rfl (lv_at hl 3 rfl) ?_
              refine r_if_ne (tgt := 104) hx hb dX7_drift_96 (by decide) (fun c96 => ?_) (fun c96 => ?_)
              · refine lv_aload_n hx hb dX7_drift_104 rfl (lv_at hl 0 rfl) ?_
                refine gt_Model_now hx hb hts ic_Model hown hK hT g0 (hts _ mw_4_71) dX7_drift_105 (fun q105 hq105 => ?_)
                refine r_bipush hx hb dX7_drift_108 rfl (fun x108 e108 => ?_)
                refine al_41 hx hb hK hT hq105 (by omega) (by omega) dX7_drift_110 (fun x110 i110 e110 => ?_)
                have n110 := ix_nat (i := x108) (by omega)
                have f110 := b59_r20 (p41_e e110) (by omega) (by omega)
                exact rt_i hx hb hr hlk hS ⟨_, hwf, hvis, hT⟩ dX7_drift_111
              · refine lv_iload hx hb dX7_drift_99 (lv_at hl 5 rfl) ?_
                refine lv_goto (tgt := 111) hx hb dX7_drift_101 (by decide) ?_
                exact rt_i hx hb hr hlk hS ⟨_, hwf, hvis, hT⟩ dX7_drift_111
            · refine lv_iload hx hb dX7_drift_50 (lv_at hl 4 rfl) ?_
              refine r_ldcw (1103515245) rfl hx hb hts hown mw_5_225 dX7_drift_52 (fun x52 e52 => ?_)
              refine w_imul hx hb dX7_drift_55 (fun x55 => ?_)
              refine r_sipush hx hb dX7_drift_56 rfl (fun x56 e56 => ?_)
              refine w_iadd hx hb dX7_drift_59 (fun x59 => ?_)
              refine lv_istore (lv' := [(4, .int x59), (0, .ref h0), (1, .int p1), (2, .int p2), (3, .int p3), (5, .int y44_5), (6, .int y44_6)]) hx hb dX7_drift_60 hl (by decide) rfl (fun ls hl => ?_)
              refine lv_aload_n hx hb dX7_drift_62 rfl (lv_at hl 1 rfl) ?_
              refine lv_iload hx hb dX7_drift_63 (lv_at hl 0 rfl) ?_
              refine r_bipush hx hb dX7_drift_65 rfl (fun x65 e65 => ?_)
              refine w_ishr hx hb dX7_drift_67 (fun x67 => ?_)
              refine r_sipush hx hb dX7_drift_68 rfl (fun x68 e68 => ?_)
              refine w_iand hx hb dX7_drift_71 (fun x71 => ?_)
              refine r_iconst hx hb dX7_drift_72 (by decide) (by decide) (fun x72 e72 => ?_)
              refine w_irem hx hb dX7_drift_73 (by omega) (fun x73 => ?_)
              refine cl_Vv (rest := []) hC hK hSK (c_X7_danceOn l z gh h0 (o0) g0 x73 hwf.2.2 hnow) k_X7_danceOn mw_5_88 ⟨rfl, rfl, Nat.le_of_ble_eq_true rfl, Nat.le_of_ble_eq_true rfl⟩ (rv_Model hK hT g0) hT rfl hl.1 rfl (Nat.le_of_ble_eq_true rfl) dX7_drift_74 ⟨Nat.zero_le _, Nat.zero_le _⟩ hS (fun _ h => h) (fun _ _ h => h) (fun H locs hpo hS => ?_)
              obtain ⟨gh74, hz74, hT⟩ := hpo
              have hst74 := hz74.2
              have hz74 := eqv_eq hz74.1
              have hwf := wf_of hz74 hwf
              have hvis := vis_of hz74 hvis
              have hnow := nowOK_of hz74 hnow
              have r41_74 := hz74 h0 41 rfl
              refine lv_iload hx hb dX7_drift_77 (lv_at hl 5 rfl) ?_
              refine lv_aload_n hx hb dX7_drift_79 rfl (lv_at hl 1 rfl) ?_
              refine cl_Vi (rest := [.int y44_5]) hC hK hSK (c_X7_round l z gh74 h0 (o0) g0) k_X7_round mw_5_0 ⟨rfl, rfl, Nat.le_of_ble_eq_true rfl, Nat.le_of_ble_eq_true rfl⟩ (rv_Model hK hT g0) hT rfl hl.1 rfl (Nat.le_of_ble_eq_true rfl) dX7_drift_80 ⟨Nat.zero_le _, Nat.zero_le _⟩ hS (fun _ h => h) (fun _ _ h => h) (fun r80 H locs hpo hS => ?_)
              have hT := hpo
              refine cl_Si (rest := [.int y44_5]) hC hK hSK (c_X7_bitsOf l z gh74 r80) k_X7_bitsOf mw_4_237 ⟨rfl, rfl, Nat.le_of_ble_eq_true rfl, Nat.le_of_ble_eq_true rfl⟩ hT rfl hl.1 rfl (Nat.le_of_ble_eq_true rfl) dX7_drift_83 ⟨Nat.zero_le _, Nat.zero_le _⟩ hS (fun _ h => h) (fun _ _ h => h) (fun r83 H locs hpo hS => ?_)
              have hT := hpo
              refine w_iadd hx hb dX7_drift_86 (fun x86 => ?_)
              refine lv_istore (lv' := [(5, .int x86), (4, .int x59), (0, .ref h0), (1, .int p1), (2, .int p2), (3, .int p3), (6, .int y44_6)]) hx hb dX7_drift_87 hl (by decide) rfl (fun ls hl => ?_)
              refine r_iinc (lv' := fun v__ => [(6, .int v__), (5, .int x86), (4, .int x59), (0, .ref h0), (1, .int p1), (2, .int p2), (3, .int p3)]) hx hb dX7_drift_89 hl (k := 6) rfl (by decide) (fun _ => rfl) ⟨by decide, by decide⟩ (by omega) (by omega) (fun x89 ls e89 hl => ?_)
              refine lv_goto (tgt := 44) hx hb dX7_drift_92 (by decide) ?_
              exact ih44 ls _ _ x59 x86 x89 _ (by omega) (by omega) hwf hvis hnow hT hS (lv_sub hl [3, 4, 5, 6, 2, 1, 0] rfl)
        exact J44 (((60 - x41.toInt)).toNat + 1) ls _ _ p1 x34 x41 _ (by omega) (by omega) hwf hvis hnow hT hS (lv_sub hl [3, 4, 5, 6, 2, 1, 0] rfl)
      · refine r_bipush hx hb dX7_drift_28 rfl (fun x28 e28 => ?_)
        exact rt_i hx hb hr hlk hS ⟨_, hwf, hvis, hT⟩ dX7_drift_30
    · refine r_iconst hx hb dX7_drift_19 (by decide) (by decide) (fun x19 e19 => ?_)
      exact rt_i hx hb hr hlk hS ⟨_, hwf, hvis, hT⟩ dX7_drift_20
theorem k_X7_count : cBV yX7_count cX7_count 2 (some .int) 1 := ⟨mw_6_21, mw_6_22, mw_1_8, mw_6_23, ⟨by decide, by decide, by decide⟩⟩
set_option maxHeartbeats 4000000 in
set_option maxRecDepth 100000 in
theorem c_X7_count (l : Launch) (z : Zt) (v : Nat → Nat → Int) (h0 o0 : Nat) (g0 : zG z h0 = (17, o0)) (p1 : Int32) : Met l yX7_count (uw yX7_count cX7_count 2 (some .int)) (rmF 3 109) (PcW z [.ref h0, .int p1] (fun H => WX z v H)) (QcI z (fun r H => WX z v H)) 0 0 (zA z) := by
  refine Met.ofW (cc := cX7_count) (maxL := 2) (ret := (some .int)) (by decide) rfl ?_
  intro p e s m args below meth c s₁ B hml hv
  obtain ⟨rfl, hW, hK, hSK⟩ := hv
  have hx := B.exec
  have hb := B.bytes
  have hr := B.returns
  have hts : ∀ w ∈ lw_ok, w.before ([.ref h0, .int p1] : List Value).toArray s = true := fun w hw => atoms_spec (ws := uw yX7_count cX7_count 2 (some .int)) B.pre w (List.mem_cons_of_mem _ hw)
  have hown : s.vm.findClass RX7 = some m.cls := findClass_of_methodNamed B.named
  have hlk := B.notSynchronized
  have hC : CallFix p m c cX7_count 2 s ([.ref h0, .int p1] : List Value).toArray lw_ok RX7 := ⟨hx, hb, hml, hown, hts⟩
  have hS : va_S (zA z) s.heap s.heap [] := va_S.rf
  have hl := lv_entry ([.ref h0, .int p1]) (n := 2) (Nat.le_of_ble_eq_true rfl)
  rw [lg_entry_eq]
  generalize (lg_sl ([.ref h0, .int p1]) ++ List.replicate (2 - (lg_sl ([.ref h0, .int p1])).length) Slot.unset).toArray = ls at hl ⊢
  have hl : lv_has ls 2 [(0, .ref h0), (1, .int p1)] := hl
  show W p l e (rmF 3 109) s m ([.ref h0, .int p1] : List Value).toArray below meth c s.heap [] 0 0 (MQ below (QcI z (fun r H => WX z v H)) ([.ref h0, .int p1] : List Value).toArray s 0 0 (zA z)) (F0 m 0 ls [])
  obtain ⟨gh, hwf, hvis, hT⟩ := hW
  have mx_p1 := i_mx p1
  refine lv_aload_n hx hb dX7_count_0 rfl (lv_at hl 0 rfl) ?_
  refine cl_Vv (rest := []) hC hK hSK (c_X7_starts l z gh h0 (o0) g0 hwf) k_X7_starts mw_4_229 ⟨rfl, rfl, Nat.le_of_ble_eq_true rfl, Nat.le_of_ble_eq_true rfl⟩ (rv_Model hK hT g0) hT rfl hl.1 rfl (Nat.le_of_ble_eq_true rfl) dX7_count_1 ⟨Nat.zero_le _, Nat.zero_le _⟩ hS (fun _ h => h) (fun _ _ h => h) (fun H locs hpo hS => ?_)
  obtain ⟨gh1, hz1, hst1, hnow, hT⟩ := hpo
  have hwf := wf_ne hz1 hwf
  have hvis := vis_ne hz1 hvis
  have r41_1 := hz1 h0 41 (by decide) (by decide)
  refine lv_iload_n hx hb dX7_count_4 rfl (lv_at hl 1 rfl) ?_
  rcases (show p1.toInt = 0 ∨ p1.toInt = 1 ∨ p1.toInt = 2 ∨ p1.toInt = 3 ∨ p1.toInt = 4 ∨ p1.toInt = 5 ∨ (p1.toInt < 0 ∨ 5 < p1.toInt) by omega) with c5 | c5 | c5 | c5 | c5 | c5 | c5
  · refine lv_tableIn (off := 39) (tgt := 44) hx hb dX7_count_5 (by omega) (by omega) (by rw [c5]; rfl) (by decide) ?_
    refine lv_aload_n hx hb dX7_count_44 rfl (lv_at hl 0 rfl) ?_
    refine gt_Model_st hx hb hts ic_Model hown hK hT g0 (hts _ mw_4_70) dX7_count_45 (fun q45 hq45 => ?_)
    refine r_bipush hx hb dX7_count_48 rfl (fun x48 e48 => ?_)
    refine al_40 hx hb hK hT hq45 (by omega) (by omega) dX7_count_50 (fun x50 i50 e50 => ?_)
    have n50 := ix_nat (i := x48) (by omega)
    have f50 := b59_r40 (p40_e e50 (by omega)) (by omega)
    exact rt_i hx hb hr hlk hS ⟨_, hwf, hvis, hT⟩ dX7_count_51
  · refine lv_tableIn (off := 47) (tgt := 52) hx hb dX7_count_5 (by omega) (by omega) (by rw [c5]; rfl) (by decide) ?_
    refine lv_aload_n hx hb dX7_count_52 rfl (lv_at hl 0 rfl) ?_
    refine gt_Model_isKept hx hb hts ic_Model hown hK hT g0 (hts _ mw_4_72) dX7_count_53 (fun q53 hq53 => ?_)
    refine r_iconst hx hb dX7_count_56 (by decide) (by decide) (fun x56 e56 => ?_)
    refine al_42 hx hb hK hT hq53 (by omega) (by omega) dX7_count_57 (fun x57 e57 => ?_)
    have n57 := ix_nat (i := x56) (by omega)
    unfold p42 at e57
    refine cl_Si (rest := []) hC hK hSK (c_X7_flag l z gh1 x57 (by omega)) k_X7_flag mw_5_4 ⟨rfl, rfl, Nat.le_of_ble_eq_true rfl, Nat.le_of_ble_eq_true rfl⟩ hT rfl hl.1 rfl (Nat.le_of_ble_eq_true rfl) dX7_count_58 ⟨Nat.zero_le _, Nat.zero_le _⟩ hS (fun _ h => h) (fun _ _ h => h) (fun r58 H locs hpo hS => ?_)
    obtain ⟨hT, u58_0⟩ := hpo
    refine lv_aload_n hx hb dX7_count_61 rfl (lv_at hl 0 rfl) ?_
    refine gt_Model_isKept hx hb hts ic_Model hown hK hT g0 (hts _ mw_4_72) dX7_count_62 (fun q62 hq62 => ?_)
    refine r_iconst hx hb dX7_count_65 (by decide) (by decide) (fun x65 e65 => ?_)
    refine al_42 hx hb hK hT hq62 (by omega) (by omega) dX7_count_66 (fun x66 e66 => ?_)
    have n66 := ix_nat (i := x65) (by omega)
    unfold p42 at e66
    refine cl_Si (rest := [.int r58]) hC hK hSK (c_X7_flag l z gh1 x66 (by omega)) k_X7_flag mw_5_4 ⟨rfl, rfl, Nat.le_of_ble_eq_true rfl, Nat.le_of_ble_eq_true rfl⟩ hT rfl hl.1 rfl (Nat.le_of_ble_eq_true rfl) dX7_count_67 ⟨Nat.zero_le _, Nat.zero_le _⟩ hS (fun _ h => h) (fun _ _ h => h) (fun r67 H locs hpo hS => ?_)
    obtain ⟨hT, u67_0⟩ := hpo
    refine r_iadd hx hb dX7_count_70 (by omega) (by omega) (fun x70 e70 => ?_)
    exact rt_i hx hb hr hlk hS ⟨_, hwf, hvis, hT⟩ dX7_count_71
  · refine lv_tableIn (off := 67) (tgt := 72) hx hb dX7_count_5 (by omega) (by omega) (by rw [c5]; rfl) (by decide) ?_
    refine lv_aload_n hx hb dX7_count_72 rfl (lv_at hl 0 rfl) ?_
    refine gt_Model_taped hx hb hts ic_Model hown hK hT g0 (hts _ mw_4_80) dX7_count_73 (fun x73 i73 e73 g73 => ?_)
    exact rt_i hx hb hr hlk hS ⟨_, hwf, hvis, hT⟩ dX7_count_76
  · refine lv_tableIn (off := 72) (tgt := 77) hx hb dX7_count_5 (by omega) (by omega) (by rw [c5]; rfl) (by decide) ?_
    refine lv_aload_n hx hb dX7_count_77 rfl (lv_at hl 0 rfl) ?_
    refine gt_Model_lanes hx hb hts ic_Model hown hK hT g0 (hts _ mw_4_91) dX7_count_78 (fun q78 hq78 => ?_)
    refine r_iconst hx hb dX7_count_81 (by decide) (by decide) (fun x81 e81 => ?_)
    refine al_47 hx hb hK hT hq78 (by omega) (by omega) dX7_count_82 (fun x82 e82 => ?_)
    have n82 := ix_nat (i := x81) (by omega)
    unfold p47 at e82
    refine r_bipush hx hb dX7_count_83 rfl (fun x83 e83 => ?_)
    refine r_icmp_ne (tgt := 93) hx hb dX7_count_85 (by decide) (fun c85 => ?_) (fun c85 => ?_)
    · refine lv_aload_n hx hb dX7_count_93 rfl (lv_at hl 0 rfl) ?_
      refine gt_Model_sizes hx hb hts ic_Model hown hK hT g0 (hts _ mw_4_92) dX7_count_94 (fun q94 hq94 => ?_)
      refine r_iconst hx hb dX7_count_97 (by decide) (by decide) (fun x97 e97 => ?_)
      refine al_48 hx hb hK hT hq94 (by omega) (by omega) dX7_count_98 (fun x98 e98 => ?_)
      have n98 := ix_nat (i := x97) (by omega)
      unfold p48 at e98
      exact rt_i hx hb hr hlk hS ⟨_, hwf, hvis, hT⟩ dX7_count_99
    · refine r_bipush hx hb dX7_count_88 rfl (fun x88 e88 => ?_)
      refine lv_goto (tgt := 99) hx hb dX7_count_90 (by decide) ?_
      exact rt_i hx hb hr hlk hS ⟨_, hwf, hvis, hT⟩ dX7_count_99
  · refine lv_tableIn (off := 95) (tgt := 100) hx hb dX7_count_5 (by omega) (by omega) (by rw [c5]; rfl) (by decide) ?_
    refine lv_aload_n hx hb dX7_count_100 rfl (lv_at hl 0 rfl) ?_
    refine r_iconst hx hb dX7_count_101 (by decide) (by decide) (fun x101 e101 => ?_)
    refine cl_Vi (rest := []) hC hK hSK (c_X7_allOf l z gh1 h0 (o0) g0 x101 (by omega) hwf.2.2) k_X7_allOf mw_5_117 ⟨rfl, rfl, Nat.le_of_ble_eq_true rfl, Nat.le_of_ble_eq_true rfl⟩ (rv_Model hK hT g0) hT rfl hl.1 rfl (Nat.le_of_ble_eq_true rfl) dX7_count_102 ⟨Nat.zero_le _, Nat.zero_le _⟩ hS (fun _ h => h) (fun _ _ h => h) (fun r102 H locs hpo hS => ?_)
    have hT := hpo
    exact rt_i hx hb hr hlk hS ⟨_, hwf, hvis, hT⟩ dX7_count_105
  · refine lv_tableIn (off := 101) (tgt := 106) hx hb dX7_count_5 (by omega) (by omega) (by rw [c5]; rfl) (by decide) ?_
    refine lv_aload_n hx hb dX7_count_106 rfl (lv_at hl 0 rfl) ?_
    refine r_iconst hx hb dX7_count_107 (by decide) (by decide) (fun x107 e107 => ?_)
    refine cl_Vi (rest := []) hC hK hSK (c_X7_allOf l z gh1 h0 (o0) g0 x107 (by omega) hwf.2.2) k_X7_allOf mw_5_117 ⟨rfl, rfl, Nat.le_of_ble_eq_true rfl, Nat.le_of_ble_eq_true rfl⟩ (rv_Model hK hT g0) hT rfl hl.1 rfl (Nat.le_of_ble_eq_true rfl) dX7_count_108 ⟨Nat.zero_le _, Nat.zero_le _⟩ hS (fun _ h => h) (fun _ _ h => h) (fun r108 H locs hpo hS => ?_)
    have hT := hpo
    exact rt_i hx hb hr hlk hS ⟨_, hwf, hvis, hT⟩ dX7_count_111
  · refine lv_tableOut (tgt := 112) hx hb dX7_count_5 c5 (by decide) ?_
    refine r_iconst hx hb dX7_count_112 (by decide) (by decide) (fun x112 e112 => ?_)
    exact rt_i hx hb hr hlk hS ⟨_, hwf, hvis, hT⟩ dX7_count_113
