/-! the reference's text, told by the same line -/

theorem inX5_text_X5 : ∀ w ∈ wsX50, w ∈ wsX5_text := by decide +kernel
set_option maxHeartbeats 4000000 in
set_option maxRecDepth 100000 in
/-- X5_text -/
theorem c_X5_text_ok (l : Launch) (nW : Nat) (D : va_G) (cA : Nat → ClassId) (ad K V : Nat → Nat) (tO tT : Nat) (hi : inj nW ad) (hNW : 114 ≤ nW) (I : SI) (J : SJ) (X : SX) (sz : Nat) (r k w h pl : Nat) (hr4 : r < 4) (hk5 : k < 5) (hp : isPairF (nI r) (nI k) = 1) (hw : I 103 (5 * r + k) = nI w) (hw9 : w < 100) (hh : I 104 k = nI h) (hh3 : h < 3) (hz9 : pl < 2147483648) : Met l yX5_text wsX5_text ({ frames := 5, cells := 0, slots := 0, locals := 107 }) (va_Pc [.ref (ad 102), .int (nI (r)), .int (nI (k)), .int (nI (pl))] (wPreL nW D cA ad K V tO tT I J X sz)) (qI nW D cA ad sz (nI ((lineL r k w h).getD pl 0)) (st2 I 102 14 0) J X) 0 0 (fr nW ad sz) := by
  refine Met.ofW (cc := cX5_text) (maxL := 6) (ret := (some .char)) (by decide) rfl ?_
  intro p e s m args below meth c s₁ B hml hv
  obtain ⟨rfl, ⟨rfl, hP, hK⟩, hL⟩ := hv
  have hx := B.exec
  have hb := B.bytes
  have hr := B.returns
  have hts := atoms_spec (ws := wsX5_text) B.pre
  have hown : s.vm.findClass RX5 = some m.cls := findClass_of_methodNamed B.named
  have hlocks := B.notSynchronized
  have hS : va_S (fr nW ad s.heap.size) s.heap s.heap [] := va_S.rf
  have hA : ∀ k, k < nW → fr nW ad s.heap.size (ad k) := fr_ad
  have hl := lv_entry ([.ref (ad 102), .int (nI (r)), .int (nI (k)), .int (nI (pl))]) (n := 6) (Nat.le_of_ble_eq_true rfl)
  rw [lg_entry_eq]
  generalize (lg_sl ([.ref (ad 102), .int (nI (r)), .int (nI (k)), .int (nI (pl))]) ++ List.replicate (6 - (lg_sl ([.ref (ad 102), .int (nI (r)), .int (nI (k)), .int (nI (pl))])).length) Slot.unset).toArray = ls at hl ⊢
  have hl : lv_has ls 6 [(0, .ref (ad 102)), (1, .int (nI (r))), (2, .int (nI (k))), (3, .int (nI (pl)))] := hl
  suffices Z9 : ∀ (H : Heap) (locs : List Loc), WP nW D cA ad I J X H → va_S (fr nW ad s.heap.size) s.heap H locs → W p l e (headSpec wsX5_text ({ frames := 5, cells := 0, slots := 0, locals := 107 })).room s m ([.ref (ad 102), .int (nI (r)), .int (nI (k)), .int (nI (pl))] : List Value).toArray below meth c H locs 0 0 (MQ below (qI nW D cA ad s.heap.size (nI ((lineL r k w h).getD pl 0)) (st2 I 102 14 0) J X) ([.ref (ad 102), .int (nI (r)), .int (nI (k)), .int (nI (pl))] : List Value).toArray s 0 0 (fr nW ad s.heap.size)) (F0 m 0 ls []) from Z9 _ _ hP hS
  clear hP hS
  intro H locs hP hS
  refine lv_aload_n hx hb dX5_text_0 rfl (lv_at hl 0 rfl) ?_
  refine lv_aload_n hx hb dX5_text_1 rfl (lv_at hl 0 rfl) ?_
  refine lv_iload_n hx hb dX5_text_2 rfl (lv_at hl 1 rfl) ?_
  refine lv_iload_n hx hb dX5_text_3 rfl (lv_at hl 2 rfl) ?_
  refine w_calli (va_runV (As := [.int (nI (r)), .int (nI (k))]) (rest := [.ref (ad 102)]) ⟨hx, hb, hml, hown, hts⟩ (c_X5_isPair l nW D cA ad hi hNW I J X H.size (nI (r)) (nI (k))) (cwV 2 hts gX5_text_X5_isPair rfl rfl rfl (by decide +kernel) ⟨Nat.le_of_ble_eq_true rfl, Nat.le_of_ble_eq_true rfl⟩) (w_preV hK hP 102 (by omega) ⟨rfl, rfl⟩ rfl) rfl rfl hl.1 rfl (lv_room (Nat.le_of_ble_eq_true rfl)) dX5_text_4 ⟨Nat.le_of_ble_eq_true rfl, Nat.le_of_ble_eq_true rfl⟩) hS (fun H locs hP hS => ?_)
  refine w_topN (a := 1) hp ?_
  refine lv_if_eq (tgt := 18) hx hb dX5_text_7 (by decide) (fun c7 => ?_) (fun c7 => ?_)
  · have qc7 : 1 = 0 := (wn_eq (a := 1) (b := 0) rfl rfl (by omega) (by omega)).mp c7
    exact absurd qc7 (by omega)
  · have qc7 : ¬ 1 = 0 := fun z => c7 ((wn_eq (a := 1) (b := 0) rfl rfl (by omega) (by omega)).mpr z)
    refine lv_iload_n hx hb dX5_text_10 rfl (lv_at hl 3 rfl) ?_
    refine lv_if_lt (tgt := 18) hx hb dX5_text_11 (by decide) (fun c11 => ?_) (fun c11 => ?_)
    · have qc11 : pl < 0 := (wn_lt (a := pl) (b := 0) rfl rfl (by omega) (by omega)).mp c11
      exact absurd qc11 (by omega)
    · have qc11 : ¬ pl < 0 := fun z => c11 ((wn_lt (a := pl) (b := 0) rfl rfl (by omega) (by omega)).mpr z)
      refine lv_iconst (v := 0) hx hb dX5_text_14 (by decide) ?_
      refine lv_goto (tgt := 19) hx hb dX5_text_15 (by decide) ?_
      refine w_calli (va_runV (As := [.int (0)]) (rest := []) ⟨hx, hb, hml, hown, hts⟩ (c_X5_fails l nW D cA ad hi hNW I J X H.size 0) (cwV 1 hts gX5_text_X5_fails rfl rfl rfl (by decide +kernel) ⟨Nat.le_of_ble_eq_true rfl, Nat.le_of_ble_eq_true rfl⟩) (w_preV hK hP 102 (by omega) ⟨rfl, rfl⟩ rfl) rfl rfl hl.1 rfl (lv_room (Nat.le_of_ble_eq_true rfl)) dX5_text_19 ⟨Nat.le_of_ble_eq_true rfl, Nat.le_of_ble_eq_true rfl⟩) hS (fun H locs hP hS => ?_)
      refine w_topN (a := 0) (by decide) ?_
      refine lv_if_eq (tgt := 27) hx hb dX5_text_22 (by decide) (fun c22 => ?_) (fun c22 => ?_)
      · have qc22 : 0 = 0 := (wn_eq (a := 0) (b := 0) rfl rfl (by omega) (by omega)).mp c22
        refine lv_aload_n hx hb dX5_text_27 rfl (lv_at hl 0 rfl) ?_
        refine w_get (C := RX5) (T := TX5) (N := 15) (v := .ref (ad 103)) (index := 7) hx hb hts inX5_text_X5 hown hK hP 102 0 ⟨rfl, rfl, by decide⟩ (by omega) rfl (List.mem_of_getElem? (i := 1) rfl) (fun _ h9 => h9) dX5_text_28 ?_
        refine lv_iconst (v := 5) hx hb dX5_text_31 (by decide) ?_
        refine lv_iload_n hx hb dX5_text_32 rfl (lv_at hl 1 rfl) ?_
        refine w_imulN (a := 5) (b := r) hx hb rfl rfl dX5_text_33 ?_
        refine lv_iload_n hx hb dX5_text_34 rfl (lv_at hl 2 rfl) ?_
        refine w_iaddN (a := (5 * r)) (b := k) hx hb rfl rfl dX5_text_35 ?_
        refine w_iald hx hb hK hP 103 ((5 * r) + k) ⟨rfl, (by show (5 * r) + k < 20; omega)⟩ (by omega) rfl dX5_text_36 ?_
        refine w_topN (a := w) (by subst_vars; exact (st2_n I 0 (by omega)).trans hw) ?_
        refine lv_istore (lv' := [(4, .int (nI (w))), (0, .ref (ad 102)), (1, .int (nI (r))), (2, .int (nI (k))), (3, .int (nI (pl)))]) hx hb dX5_text_37 hl (by decide) rfl (fun ls hl => ?_)
        refine lv_iload hx hb dX5_text_39 (lv_at hl 0 rfl) ?_
        refine lv_if_ne (tgt := 60) hx hb dX5_text_41 (by decide) (fun c41 => ?_) (fun c41 => ?_)
        · have qc41 : ¬ w = 0 := fun z => c41 ((wn_eq (a := w) (b := 0) rfl rfl (by omega) (by omega)).mpr z)
          refine lv_iload hx hb dX5_text_60 (lv_at hl 0 rfl) ?_
          refine lv_bipush (v := 9) hx hb dX5_text_62 (by decide) ?_
          refine lv_icmp_le (tgt := 71) hx hb dX5_text_64 (by decide) (fun c64 => ?_) (fun c64 => ?_)
          · have qc64 : w ≤ 9 := (wn_le (a := w) (b := 9) rfl rfl (by omega) (by omega)).mp c64
            refine lv_iconst (v := 1) hx hb dX5_text_71 (by decide) ?_
            refine lv_istore (lv' := [(5, .int (1)), (4, .int (nI (w))), (0, .ref (ad 102)), (1, .int (nI (r))), (2, .int (nI (k))), (3, .int (nI (pl)))]) hx hb dX5_text_72 hl (by decide) rfl (fun ls hl => ?_)
            refine lv_iload_n hx hb dX5_text_74 rfl (lv_at hl 5 rfl) ?_
            rcases (by omega : pl = 0 ∨ pl = 1 ∨ pl = 2 ∨ pl = 3 ∨ pl = 4 ∨ pl = 5 ∨ pl = 6 ∨ 7 ≤ pl) with e0 | e1 | e2 | e3 | e4 | e5 | e6 | e7
            · refine lv_tableIn (off := 41) (tgt := 116) hx hb dX5_text_75 (by rw [e0]; decide) (by rw [e0]; decide) (by rw [e0]; decide) (by decide) ?_
              refine lv_bipush (v := 114) hx hb dX5_text_116 (by decide) ?_
              exact w_zret hx hb hr rfl hlocks hK hP hS ⟨by rw [e0, ll_1 h (by omega) hr4 hk5]; rfl, by subst_vars; rfl, by subst_vars; rfl, by subst_vars; rfl⟩ dX5_text_118
            · refine lv_tableIn (off := 44) (tgt := 119) hx hb dX5_text_75 (by rw [e1]; decide) (by rw [e1]; decide) (by rw [e1]; decide) (by decide) ?_
              refine lv_bipush (v := 48) hx hb dX5_text_119 (by decide) ?_
              refine lv_iload_n hx hb dX5_text_121 rfl (lv_at hl 3 rfl) ?_
              refine w_iaddN (a := 48) (b := r) hx hb rfl rfl dX5_text_122 ?_
              refine lv_i2c (v := nI (48 + r)) hx hb dX5_text_123 (nI_c2 _ (by omega)) ?_
              exact w_zret hx hb hr (nI_nc _ (by omega)) hlocks hK hP hS ⟨by rw [e1, ll_1 h (by omega) hr4 hk5]; rfl, by subst_vars; rfl, by subst_vars; rfl, by subst_vars; rfl⟩ dX5_text_124
            · refine lv_tableIn (off := 50) (tgt := 125) hx hb dX5_text_75 (by rw [e2]; decide) (by rw [e2]; decide) (by rw [e2]; decide) (by decide) ?_
              refine lv_bipush (v := 45) hx hb dX5_text_125 (by decide) ?_
              exact w_zret hx hb hr rfl hlocks hK hP hS ⟨by rw [e2, ll_1 h (by omega) hr4 hk5]; rfl, by subst_vars; rfl, by subst_vars; rfl, by subst_vars; rfl⟩ dX5_text_127
            · refine lv_tableIn (off := 53) (tgt := 128) hx hb dX5_text_75 (by rw [e3]; decide) (by rw [e3]; decide) (by rw [e3]; decide) (by decide) ?_
              refine lv_bipush (v := 98) hx hb dX5_text_128 (by decide) ?_
              exact w_zret hx hb hr rfl hlocks hK hP hS ⟨by rw [e3, ll_1 h (by omega) hr4 hk5]; rfl, by subst_vars; rfl, by subst_vars; rfl, by subst_vars; rfl⟩ dX5_text_130
            · refine lv_tableIn (off := 56) (tgt := 131) hx hb dX5_text_75 (by rw [e4]; decide) (by rw [e4]; decide) (by rw [e4]; decide) (by decide) ?_
              refine lv_bipush (v := 48) hx hb dX5_text_131 (by decide) ?_
              refine lv_iload_n hx hb dX5_text_133 rfl (lv_at hl 4 rfl) ?_
              refine w_iaddN (a := 48) (b := k) hx hb rfl rfl dX5_text_134 ?_
              refine lv_i2c (v := nI (48 + k)) hx hb dX5_text_135 (nI_c2 _ (by omega)) ?_
              exact w_zret hx hb hr (nI_nc _ (by omega)) hlocks hK hP hS ⟨by rw [e4, ll_1 h (by omega) hr4 hk5]; rfl, by subst_vars; rfl, by subst_vars; rfl, by subst_vars; rfl⟩ dX5_text_136
            · refine lv_tableIn (off := 62) (tgt := 137) hx hb dX5_text_75 (by rw [e5]; decide) (by rw [e5]; decide) (by rw [e5]; decide) (by decide) ?_
              refine lv_bipush (v := 58) hx hb dX5_text_137 (by decide) ?_
              exact w_zret hx hb hr rfl hlocks hK hP hS ⟨by rw [e5, ll_1 h (by omega) hr4 hk5]; rfl, by subst_vars; rfl, by subst_vars; rfl, by subst_vars; rfl⟩ dX5_text_139
            · refine lv_tableIn (off := 65) (tgt := 140) hx hb dX5_text_75 (by rw [e6]; decide) (by rw [e6]; decide) (by rw [e6]; decide) (by decide) ?_
              refine lv_bipush (v := 48) hx hb dX5_text_140 (by decide) ?_
              refine lv_iload hx hb dX5_text_142 (lv_at hl 0 rfl) ?_
              refine lv_iconst (v := 2) hx hb dX5_text_144 (by decide) ?_
              refine lv_icmp_ne (tgt := 156) hx hb dX5_text_145 (by decide) (fun c145 => ?_) (fun c145 => ?_)
              · have qc145 : ¬ 1 = 2 := fun z => c145 ((wn_eq (a := 1) (b := 2) rfl rfl (by omega) (by omega)).mpr z)
                refine lv_iload hx hb dX5_text_156 (lv_at hl 1 rfl) ?_
                refine w_iaddN (a := 48) (b := w) hx hb rfl rfl dX5_text_158 ?_
                refine lv_i2c (v := nI (48 + w)) hx hb dX5_text_159 (nI_c2 _ (by omega)) ?_
                exact w_zret hx hb hr (nI_nc _ (by omega)) hlocks hK hP hS ⟨by rw [e6, ll_6 h (by omega) hr4 hk5, if_pos (by omega)], by subst_vars; rfl, by subst_vars; rfl, by subst_vars; rfl⟩ dX5_text_160
              · have qc145 : 1 = 2 := (wn_eq (a := 1) (b := 2) rfl rfl (by omega) (by omega)).mp c145
                exact absurd qc145 (by omega)
            · refine lv_tableOut (tgt := 161) hx hb dX5_text_75 (Or.inr (by rw [nI_ti (by omega)]; omega)) (by decide) ?_
              refine lv_iload hx hb dX5_text_161 (lv_at hl 0 rfl) ?_
              refine lv_iconst (v := 2) hx hb dX5_text_163 (by decide) ?_
              refine lv_icmp_ne (tgt := 185) hx hb dX5_text_164 (by decide) (fun c164 => ?_) (fun c164 => ?_)
              · have qc164 : ¬ 1 = 2 := fun z => c164 ((wn_eq (a := 1) (b := 2) rfl rfl (by omega) (by omega)).mpr z)
                refine lv_aload_n hx hb dX5_text_185 rfl (lv_at hl 2 rfl) ?_
                refine lv_aload_n hx hb dX5_text_186 rfl (lv_at hl 2 rfl) ?_
                refine w_get (C := RX5) (T := TX5) (N := 15) (v := .ref (ad 104)) (index := 13) hx hb hts inX5_text_X5 hown hK hP 102 1 ⟨rfl, rfl, by decide⟩ (by omega) rfl (List.mem_of_getElem? (i := 2) rfl) (fun _ h9 => h9) dX5_text_187 ?_
                refine lv_iload_n hx hb dX5_text_190 rfl (lv_at hl 4 rfl) ?_
                refine w_iald hx hb hK hP 104 (k) ⟨rfl, (by show k < 5; omega)⟩ (by omega) rfl dX5_text_191 ?_
                refine w_topN (a := h) (by subst_vars; exact (st2_n I 0 (by omega)).trans hh) ?_
                refine lv_iload_n hx hb dX5_text_192 rfl (lv_at hl 5 rfl) ?_
                refine lv_bipush (v := 6) hx hb dX5_text_193 (by decide) ?_
                refine lv_isub hx hb dX5_text_195 ?_
                refine w_topN (a := (pl - 6)) (nI_sub (b := 6) (by omega)) ?_
                refine lv_iload hx hb dX5_text_196 (lv_at hl 0 rfl) ?_
                refine lv_isub hx hb dX5_text_198 ?_
                refine w_topN (a := (pl - 6 - 1)) (nI_sub (b := 1) (by omega)) ?_
                refine w_calli (va_runV (As := [.int (nI (h)), .int (nI (pl - 6 - 1))]) (rest := []) ⟨hx, hb, hml, hown, hts⟩ (c_X5_word l nW D cA ad K V tO tT hi hNW (st2 I 102 14 0) J X H.size h (pl - 6 - 1) (by omega) (by omega)) (cwV 2 hts gX5_text_X5_word rfl rfl rfl (by decide +kernel) ⟨Nat.le_of_ble_eq_true rfl, Nat.le_of_ble_eq_true rfl⟩) (w_preVL hK hP hL hS 102 (by omega) ⟨rfl, rfl⟩ rfl) rfl rfl hl.1 rfl (lv_room (Nat.le_of_ble_eq_true rfl)) dX5_text_199 ⟨Nat.le_of_ble_eq_true rfl, Nat.le_of_ble_eq_true rfl⟩) hS (fun H locs hP hS => ?_)
                exact w_zret hx hb hr (nI_nc _ (li_small _ (btN_lt h) _)) hlocks hK hP hS ⟨by rw [ll_w h (by omega) hr4 hk5 (by rw [dg_l1 (by omega)]; omega), dg_l1 (by omega)], by subst_vars; rfl, by subst_vars; rfl, by subst_vars; rfl⟩ dX5_text_202
              · have qc164 : 1 = 2 := (wn_eq (a := 1) (b := 2) rfl rfl (by omega) (by omega)).mp c164
                exact absurd qc164 (by omega)
          · have qc64 : ¬ w ≤ 9 := fun z => c64 ((wn_le (a := w) (b := 9) rfl rfl (by omega) (by omega)).mpr z)
            refine lv_iconst (v := 2) hx hb dX5_text_67 (by decide) ?_
            refine lv_goto (tgt := 72) hx hb dX5_text_68 (by decide) ?_
            refine lv_istore (lv' := [(5, .int (2)), (4, .int (nI (w))), (0, .ref (ad 102)), (1, .int (nI (r))), (2, .int (nI (k))), (3, .int (nI (pl)))]) hx hb dX5_text_72 hl (by decide) rfl (fun ls hl => ?_)
            refine lv_iload_n hx hb dX5_text_74 rfl (lv_at hl 5 rfl) ?_
            rcases (by omega : pl = 0 ∨ pl = 1 ∨ pl = 2 ∨ pl = 3 ∨ pl = 4 ∨ pl = 5 ∨ pl = 6 ∨ 7 ≤ pl) with e0 | e1 | e2 | e3 | e4 | e5 | e6 | e7
            · refine lv_tableIn (off := 41) (tgt := 116) hx hb dX5_text_75 (by rw [e0]; decide) (by rw [e0]; decide) (by rw [e0]; decide) (by decide) ?_
              refine lv_bipush (v := 114) hx hb dX5_text_116 (by decide) ?_
              exact w_zret hx hb hr rfl hlocks hK hP hS ⟨by rw [e0, ll_1 h (by omega) hr4 hk5]; rfl, by subst_vars; rfl, by subst_vars; rfl, by subst_vars; rfl⟩ dX5_text_118
            · refine lv_tableIn (off := 44) (tgt := 119) hx hb dX5_text_75 (by rw [e1]; decide) (by rw [e1]; decide) (by rw [e1]; decide) (by decide) ?_
              refine lv_bipush (v := 48) hx hb dX5_text_119 (by decide) ?_
              refine lv_iload_n hx hb dX5_text_121 rfl (lv_at hl 3 rfl) ?_
              refine w_iaddN (a := 48) (b := r) hx hb rfl rfl dX5_text_122 ?_
              refine lv_i2c (v := nI (48 + r)) hx hb dX5_text_123 (nI_c2 _ (by omega)) ?_
              exact w_zret hx hb hr (nI_nc _ (by omega)) hlocks hK hP hS ⟨by rw [e1, ll_1 h (by omega) hr4 hk5]; rfl, by subst_vars; rfl, by subst_vars; rfl, by subst_vars; rfl⟩ dX5_text_124
            · refine lv_tableIn (off := 50) (tgt := 125) hx hb dX5_text_75 (by rw [e2]; decide) (by rw [e2]; decide) (by rw [e2]; decide) (by decide) ?_
              refine lv_bipush (v := 45) hx hb dX5_text_125 (by decide) ?_
              exact w_zret hx hb hr rfl hlocks hK hP hS ⟨by rw [e2, ll_1 h (by omega) hr4 hk5]; rfl, by subst_vars; rfl, by subst_vars; rfl, by subst_vars; rfl⟩ dX5_text_127
            · refine lv_tableIn (off := 53) (tgt := 128) hx hb dX5_text_75 (by rw [e3]; decide) (by rw [e3]; decide) (by rw [e3]; decide) (by decide) ?_
              refine lv_bipush (v := 98) hx hb dX5_text_128 (by decide) ?_
              exact w_zret hx hb hr rfl hlocks hK hP hS ⟨by rw [e3, ll_1 h (by omega) hr4 hk5]; rfl, by subst_vars; rfl, by subst_vars; rfl, by subst_vars; rfl⟩ dX5_text_130
            · refine lv_tableIn (off := 56) (tgt := 131) hx hb dX5_text_75 (by rw [e4]; decide) (by rw [e4]; decide) (by rw [e4]; decide) (by decide) ?_
              refine lv_bipush (v := 48) hx hb dX5_text_131 (by decide) ?_
              refine lv_iload_n hx hb dX5_text_133 rfl (lv_at hl 4 rfl) ?_
              refine w_iaddN (a := 48) (b := k) hx hb rfl rfl dX5_text_134 ?_
              refine lv_i2c (v := nI (48 + k)) hx hb dX5_text_135 (nI_c2 _ (by omega)) ?_
              exact w_zret hx hb hr (nI_nc _ (by omega)) hlocks hK hP hS ⟨by rw [e4, ll_1 h (by omega) hr4 hk5]; rfl, by subst_vars; rfl, by subst_vars; rfl, by subst_vars; rfl⟩ dX5_text_136
            · refine lv_tableIn (off := 62) (tgt := 137) hx hb dX5_text_75 (by rw [e5]; decide) (by rw [e5]; decide) (by rw [e5]; decide) (by decide) ?_
              refine lv_bipush (v := 58) hx hb dX5_text_137 (by decide) ?_
              exact w_zret hx hb hr rfl hlocks hK hP hS ⟨by rw [e5, ll_1 h (by omega) hr4 hk5]; rfl, by subst_vars; rfl, by subst_vars; rfl, by subst_vars; rfl⟩ dX5_text_139
            · refine lv_tableIn (off := 65) (tgt := 140) hx hb dX5_text_75 (by rw [e6]; decide) (by rw [e6]; decide) (by rw [e6]; decide) (by decide) ?_
              refine lv_bipush (v := 48) hx hb dX5_text_140 (by decide) ?_
              refine lv_iload hx hb dX5_text_142 (lv_at hl 0 rfl) ?_
              refine lv_iconst (v := 2) hx hb dX5_text_144 (by decide) ?_
              refine lv_icmp_ne (tgt := 156) hx hb dX5_text_145 (by decide) (fun c145 => ?_) (fun c145 => ?_)
              · have qc145 : ¬ 2 = 2 := fun z => c145 ((wn_eq (a := 2) (b := 2) rfl rfl (by omega) (by omega)).mpr z)
                exact absurd qc145 (by omega)
              · have qc145 : 2 = 2 := (wn_eq (a := 2) (b := 2) rfl rfl (by omega) (by omega)).mp c145
                refine lv_iload hx hb dX5_text_148 (lv_at hl 1 rfl) ?_
                refine lv_bipush (v := 10) hx hb dX5_text_150 (by decide) ?_
                refine lv_idiv hx hb dX5_text_152 (by decide) ?_
                refine w_topN (a := (w / 10)) (nI_d10 w hw9) ?_
                refine lv_goto (tgt := 158) hx hb dX5_text_153 (by decide) ?_
                refine w_iaddN (a := 48) (b := (w / 10)) hx hb rfl rfl dX5_text_158 ?_
                refine lv_i2c (v := nI (48 + w / 10)) hx hb dX5_text_159 (nI_c2 _ (by omega)) ?_
                exact w_zret hx hb hr (nI_nc _ (by omega)) hlocks hK hP hS ⟨by rw [e6, ll_6 h (by omega) hr4 hk5, if_neg (by omega)], by subst_vars; rfl, by subst_vars; rfl, by subst_vars; rfl⟩ dX5_text_160
            · refine lv_tableOut (tgt := 161) hx hb dX5_text_75 (Or.inr (by rw [nI_ti (by omega)]; omega)) (by decide) ?_
              refine lv_iload hx hb dX5_text_161 (lv_at hl 0 rfl) ?_
              refine lv_iconst (v := 2) hx hb dX5_text_163 (by decide) ?_
              refine lv_icmp_ne (tgt := 185) hx hb dX5_text_164 (by decide) (fun c164 => ?_) (fun c164 => ?_)
              · have qc164 : ¬ 2 = 2 := fun z => c164 ((wn_eq (a := 2) (b := 2) rfl rfl (by omega) (by omega)).mpr z)
                exact absurd qc164 (by omega)
              · have qc164 : 2 = 2 := (wn_eq (a := 2) (b := 2) rfl rfl (by omega) (by omega)).mp c164
                refine lv_iload_n hx hb dX5_text_167 rfl (lv_at hl 5 rfl) ?_
                refine lv_bipush (v := 7) hx hb dX5_text_168 (by decide) ?_
                refine lv_icmp_ne (tgt := 185) hx hb dX5_text_170 (by decide) (fun c170 => ?_) (fun c170 => ?_)
                · have qc170 : ¬ pl = 7 := fun z => c170 ((wn_eq (a := pl) (b := 7) rfl rfl (by omega) (by omega)).mpr z)
                  refine lv_aload_n hx hb dX5_text_185 rfl (lv_at hl 2 rfl) ?_
                  refine lv_aload_n hx hb dX5_text_186 rfl (lv_at hl 2 rfl) ?_
                  refine w_get (C := RX5) (T := TX5) (N := 15) (v := .ref (ad 104)) (index := 13) hx hb hts inX5_text_X5 hown hK hP 102 1 ⟨rfl, rfl, by decide⟩ (by omega) rfl (List.mem_of_getElem? (i := 2) rfl) (fun _ h9 => h9) dX5_text_187 ?_
                  refine lv_iload_n hx hb dX5_text_190 rfl (lv_at hl 4 rfl) ?_
                  refine w_iald hx hb hK hP 104 (k) ⟨rfl, (by show k < 5; omega)⟩ (by omega) rfl dX5_text_191 ?_
                  refine w_topN (a := h) (by subst_vars; exact (st2_n I 0 (by omega)).trans hh) ?_
                  refine lv_iload_n hx hb dX5_text_192 rfl (lv_at hl 5 rfl) ?_
                  refine lv_bipush (v := 6) hx hb dX5_text_193 (by decide) ?_
                  refine lv_isub hx hb dX5_text_195 ?_
                  refine w_topN (a := (pl - 6)) (nI_sub (b := 6) (by omega)) ?_
                  refine lv_iload hx hb dX5_text_196 (lv_at hl 0 rfl) ?_
                  refine lv_isub hx hb dX5_text_198 ?_
                  refine w_topN (a := (pl - 6 - 2)) (nI_sub (b := 2) (by omega)) ?_
                  refine w_calli (va_runV (As := [.int (nI (h)), .int (nI (pl - 6 - 2))]) (rest := []) ⟨hx, hb, hml, hown, hts⟩ (c_X5_word l nW D cA ad K V tO tT hi hNW (st2 I 102 14 0) J X H.size h (pl - 6 - 2) (by omega) (by omega)) (cwV 2 hts gX5_text_X5_word rfl rfl rfl (by decide +kernel) ⟨Nat.le_of_ble_eq_true rfl, Nat.le_of_ble_eq_true rfl⟩) (w_preVL hK hP hL hS 102 (by omega) ⟨rfl, rfl⟩ rfl) rfl rfl hl.1 rfl (lv_room (Nat.le_of_ble_eq_true rfl)) dX5_text_199 ⟨Nat.le_of_ble_eq_true rfl, Nat.le_of_ble_eq_true rfl⟩) hS (fun H locs hP hS => ?_)
                  exact w_zret hx hb hr (nI_nc _ (li_small _ (btN_lt h) _)) hlocks hK hP hS ⟨by rw [ll_w h (by omega) hr4 hk5 (by rw [dg_l2 (by omega)]; omega), dg_l2 (by omega)], by subst_vars; rfl, by subst_vars; rfl, by subst_vars; rfl⟩ dX5_text_202
                · have qc170 : pl = 7 := (wn_eq (a := pl) (b := 7) rfl rfl (by omega) (by omega)).mp c170
                  refine lv_bipush (v := 48) hx hb dX5_text_173 (by decide) ?_
                  refine lv_iload hx hb dX5_text_175 (lv_at hl 1 rfl) ?_
                  refine lv_bipush (v := 10) hx hb dX5_text_177 (by decide) ?_
                  refine lv_irem hx hb dX5_text_179 (by decide) ?_
                  refine w_topN (a := (w % 10)) (nI_r10 w hw9) ?_
                  refine w_iaddN (a := 48) (b := (w % 10)) hx hb rfl rfl dX5_text_180 ?_
                  refine lv_i2c (v := nI (48 + w % 10)) hx hb dX5_text_181 (nI_c2 _ (by omega)) ?_
                  refine lv_goto (tgt := 202) hx hb dX5_text_182 (by decide) ?_
                  exact w_zret hx hb hr (nI_nc _ (by omega)) hlocks hK hP hS ⟨by rw [show pl = 7 from by omega, ll_7 h (by omega) hr4 hk5], by subst_vars; rfl, by subst_vars; rfl, by subst_vars; rfl⟩ dX5_text_202
        · have qc41 : w = 0 := (wn_eq (a := w) (b := 0) rfl rfl (by omega) (by omega)).mp c41
          refine lv_iload_n hx hb dX5_text_44 rfl (lv_at hl 4 rfl) ?_
          refine lv_iconst (v := 4) hx hb dX5_text_45 (by decide) ?_
          refine lv_icmp_ge (tgt := 58) hx hb dX5_text_46 (by decide) (fun c46 => ?_) (fun c46 => ?_)
          · have qc46 : 4 ≤ pl := (wn_le (a := 4) (b := pl) rfl rfl (by omega) (by omega)).mp c46
            refine lv_iconst (v := 0) hx hb dX5_text_58 (by decide) ?_
            exact w_zret hx hb hr rfl hlocks hK hP hS ⟨by rw [ll_0 h (by omega), getD_out (by show 4 ≤ pl; omega)]; rfl, by subst_vars; rfl, by subst_vars; rfl, by subst_vars; rfl⟩ dX5_text_59
          · have qc46 : ¬ 4 ≤ pl := fun z => c46 ((wn_le (a := 4) (b := pl) rfl rfl (by omega) (by omega)).mpr z)
            refine va_ldcS hx hb hown (hL.2.2.2.2 5 (by decide)).2.2.2.2 dX5_text_49 ?_
            refine lv_iload_n hx hb dX5_text_51 rfl (lv_at hl 4 rfl) ?_
            refine w_calli (va_runV (As := [.int (nI (pl))]) (rest := []) ⟨hx, hb, hml, hown, hts⟩ (c_J0_charAt_5068e l nW D cA ad K V tO tT hi (by omega) (st2 I 102 14 0) J X H.size 5 (by omega) pl (by show pl < 4; omega)) (cwV 1 hts gX5_text_J0_charAt_5068e rfl rfl rfl (by decide +kernel) ⟨Nat.le_of_ble_eq_true rfl, Nat.le_of_ble_eq_true rfl⟩) (w_preLi hK hP hL hS 5 (by omega)) rfl rfl hl.1 rfl (lv_room (Nat.le_of_ble_eq_true rfl)) dX5_text_52 ⟨Nat.le_of_ble_eq_true rfl, Nat.le_of_ble_eq_true rfl⟩) hS (fun H locs hP hS => ?_)
            refine lv_goto (tgt := 59) hx hb dX5_text_55 (by decide) ?_
            exact w_zret hx hb hr (nI_nc _ (li_small 5 (by decide) pl)) hlocks hK hP hS ⟨by rw [ll_0 h (by omega)]; rfl, by subst_vars; rfl, by subst_vars; rfl, by subst_vars; rfl⟩ dX5_text_59
      · have qc22 : ¬ 0 = 0 := fun z => c22 ((wn_eq (a := 0) (b := 0) rfl rfl (by omega) (by omega)).mpr z)
        exact absurd qc22 (by omega)

set_option maxHeartbeats 4000000 in
set_option maxRecDepth 100000 in
/-- X5_text -/
theorem c_X5_text_f1 (l : Launch) (nW : Nat) (D : va_G) (cA : Nat → ClassId) (ad : Nat → Nat) (hi : inj nW ad) (hNW : 114 ≤ nW) (I : SI) (J : SJ) (X : SX) (sz : Nat) (r k z : Int32) (hp : isPairF r k = 0) : Met l yX5_text wsX5_text ({ frames := 2, cells := 0, slots := 0, locals := 45 }) (va_Pc [.ref (ad 102), .int (r), .int (k), .int (z)] (wPre nW D cA ad I J X sz)) (qI nW D cA ad sz (0) (st2 I 102 14 1) J X) 0 0 (fr nW ad sz) := by
  refine Met.ofW (cc := cX5_text) (maxL := 6) (ret := (some .char)) (by decide) rfl ?_
  intro p e s m args below meth c s₁ B hml hv
  obtain ⟨rfl, rfl, hP, hK⟩ := hv
  have hx := B.exec
  have hb := B.bytes
  have hr := B.returns
  have hts := atoms_spec (ws := wsX5_text) B.pre
  have hown : s.vm.findClass RX5 = some m.cls := findClass_of_methodNamed B.named
  have hlocks := B.notSynchronized
  have hS : va_S (fr nW ad s.heap.size) s.heap s.heap [] := va_S.rf
  have hA : ∀ k, k < nW → fr nW ad s.heap.size (ad k) := fr_ad
  have hl := lv_entry ([.ref (ad 102), .int (r), .int (k), .int (z)]) (n := 6) (Nat.le_of_ble_eq_true rfl)
  rw [lg_entry_eq]
  generalize (lg_sl ([.ref (ad 102), .int (r), .int (k), .int (z)]) ++ List.replicate (6 - (lg_sl ([.ref (ad 102), .int (r), .int (k), .int (z)])).length) Slot.unset).toArray = ls at hl ⊢
  have hl : lv_has ls 6 [(0, .ref (ad 102)), (1, .int (r)), (2, .int (k)), (3, .int (z))] := hl
  have hS0 := hS
  suffices K : ∀ (H : Heap) (locs : List Loc), WP nW D cA ad I J X H → va_S (fr nW ad s.heap.size) s.heap H locs → W p l e (headSpec wsX5_text ({ frames := 2, cells := 0, slots := 0, locals := 45 })).room s m ([.ref (ad 102), .int (r), .int (k), .int (z)] : List Value).toArray below meth c H locs 0 0 (MQ below (qI nW D cA ad s.heap.size (0) (st2 I 102 14 1) J X) ([.ref (ad 102), .int (r), .int (k), .int (z)] : List Value).toArray s 0 0 (fr nW ad s.heap.size)) (F0 m 0 ls []) from K _ _ hP hS
  clear hP hS hS0
  intro H locs hP hS
  refine lv_aload_n hx hb dX5_text_0 rfl (lv_at hl 0 rfl) ?_
  refine lv_aload_n hx hb dX5_text_1 rfl (lv_at hl 0 rfl) ?_
  refine lv_iload_n hx hb dX5_text_2 rfl (lv_at hl 1 rfl) ?_
  refine lv_iload_n hx hb dX5_text_3 rfl (lv_at hl 2 rfl) ?_
  refine w_calli (va_runV (As := [.int (r), .int (k)]) (rest := [.ref (ad 102)]) ⟨hx, hb, hml, hown, hts⟩ (c_X5_isPair l nW D cA ad hi hNW I J X H.size r k) (cwV 2 hts gX5_text_X5_isPair rfl rfl rfl (by decide +kernel) ⟨Nat.le_of_ble_eq_true rfl, Nat.le_of_ble_eq_true rfl⟩) (w_preV hK hP 102 (by omega) ⟨rfl, rfl⟩ rfl) rfl rfl hl.1 rfl (lv_room (Nat.le_of_ble_eq_true rfl)) dX5_text_4 ⟨Nat.le_of_ble_eq_true rfl, Nat.le_of_ble_eq_true rfl⟩) hS (fun H locs hP hS => ?_)
  refine w_topN (a := 0) hp ?_
  refine lv_if_eq (tgt := 18) hx hb dX5_text_7 (by decide) (fun c7 => ?_) (fun c7 => ?_)
  · have qc7 : 0 = 0 := (wn_eq (a := 0) (b := 0) rfl rfl (by omega) (by omega)).mp c7
    refine lv_iconst (v := 1) hx hb dX5_text_18 (by decide) ?_
    refine w_calli (va_runV (As := [.int (1)]) (rest := []) ⟨hx, hb, hml, hown, hts⟩ (c_X5_fails l nW D cA ad hi hNW I J X H.size 1) (cwV 1 hts gX5_text_X5_fails rfl rfl rfl (by decide +kernel) ⟨Nat.le_of_ble_eq_true rfl, Nat.le_of_ble_eq_true rfl⟩) (w_preV hK hP 102 (by omega) ⟨rfl, rfl⟩ rfl) rfl rfl hl.1 rfl (lv_room (Nat.le_of_ble_eq_true rfl)) dX5_text_19 ⟨Nat.le_of_ble_eq_true rfl, Nat.le_of_ble_eq_true rfl⟩) hS (fun H locs hP hS => ?_)
    refine w_topN (a := 1) (by decide) ?_
    refine lv_if_eq (tgt := 27) hx hb dX5_text_22 (by decide) (fun c22 => ?_) (fun c22 => ?_)
    · have qc22 : 1 = 0 := (wn_eq (a := 1) (b := 0) rfl rfl (by omega) (by omega)).mp c22
      exact absurd qc22 (by omega)
    · have qc22 : ¬ 1 = 0 := fun z => c22 ((wn_eq (a := 1) (b := 0) rfl rfl (by omega) (by omega)).mpr z)
      refine lv_iconst (v := 0) hx hb dX5_text_25 (by decide) ?_
      exact w_zret hx hb hr rfl hlocks hK hP hS ⟨by subst_vars; rfl, by subst_vars; rfl, by subst_vars; rfl, by subst_vars; rfl⟩ dX5_text_26
  · have qc7 : ¬ 0 = 0 := fun z => c7 ((wn_eq (a := 0) (b := 0) rfl rfl (by omega) (by omega)).mpr z)
    exact absurd qc7 (by omega)

set_option maxHeartbeats 4000000 in
set_option maxRecDepth 100000 in
/-- X5_text -/
theorem c_X5_text_f2 (l : Launch) (nW : Nat) (D : va_G) (cA : Nat → ClassId) (ad : Nat → Nat) (hi : inj nW ad) (hNW : 114 ≤ nW) (I : SI) (J : SJ) (X : SX) (sz : Nat) (r k z : Int32) (hp : isPairF r k = 1) (hm : z < 0) : Met l yX5_text wsX5_text ({ frames := 2, cells := 0, slots := 0, locals := 45 }) (va_Pc [.ref (ad 102), .int (r), .int (k), .int (z)] (wPre nW D cA ad I J X sz)) (qI nW D cA ad sz (0) (st2 I 102 14 1) J X) 0 0 (fr nW ad sz) := by
  refine Met.ofW (cc := cX5_text) (maxL := 6) (ret := (some .char)) (by decide) rfl ?_
  intro p e s m args below meth c s₁ B hml hv
  obtain ⟨rfl, rfl, hP, hK⟩ := hv
  have hx := B.exec
  have hb := B.bytes
  have hr := B.returns
  have hts := atoms_spec (ws := wsX5_text) B.pre
  have hown : s.vm.findClass RX5 = some m.cls := findClass_of_methodNamed B.named
  have hlocks := B.notSynchronized
  have hS : va_S (fr nW ad s.heap.size) s.heap s.heap [] := va_S.rf
  have hA : ∀ k, k < nW → fr nW ad s.heap.size (ad k) := fr_ad
  have hl := lv_entry ([.ref (ad 102), .int (r), .int (k), .int (z)]) (n := 6) (Nat.le_of_ble_eq_true rfl)
  rw [lg_entry_eq]
  generalize (lg_sl ([.ref (ad 102), .int (r), .int (k), .int (z)]) ++ List.replicate (6 - (lg_sl ([.ref (ad 102), .int (r), .int (k), .int (z)])).length) Slot.unset).toArray = ls at hl ⊢
  have hl : lv_has ls 6 [(0, .ref (ad 102)), (1, .int (r)), (2, .int (k)), (3, .int (z))] := hl
  have hS0 := hS
  suffices K : ∀ (H : Heap) (locs : List Loc), WP nW D cA ad I J X H → va_S (fr nW ad s.heap.size) s.heap H locs → W p l e (headSpec wsX5_text ({ frames := 2, cells := 0, slots := 0, locals := 45 })).room s m ([.ref (ad 102), .int (r), .int (k), .int (z)] : List Value).toArray below meth c H locs 0 0 (MQ below (qI nW D cA ad s.heap.size (0) (st2 I 102 14 1) J X) ([.ref (ad 102), .int (r), .int (k), .int (z)] : List Value).toArray s 0 0 (fr nW ad s.heap.size)) (F0 m 0 ls []) from K _ _ hP hS
  clear hP hS hS0
  intro H locs hP hS
  refine lv_aload_n hx hb dX5_text_0 rfl (lv_at hl 0 rfl) ?_
  refine lv_aload_n hx hb dX5_text_1 rfl (lv_at hl 0 rfl) ?_
  refine lv_iload_n hx hb dX5_text_2 rfl (lv_at hl 1 rfl) ?_
  refine lv_iload_n hx hb dX5_text_3 rfl (lv_at hl 2 rfl) ?_
  refine w_calli (va_runV (As := [.int (r), .int (k)]) (rest := [.ref (ad 102)]) ⟨hx, hb, hml, hown, hts⟩ (c_X5_isPair l nW D cA ad hi hNW I J X H.size r k) (cwV 2 hts gX5_text_X5_isPair rfl rfl rfl (by decide +kernel) ⟨Nat.le_of_ble_eq_true rfl, Nat.le_of_ble_eq_true rfl⟩) (w_preV hK hP 102 (by omega) ⟨rfl, rfl⟩ rfl) rfl rfl hl.1 rfl (lv_room (Nat.le_of_ble_eq_true rfl)) dX5_text_4 ⟨Nat.le_of_ble_eq_true rfl, Nat.le_of_ble_eq_true rfl⟩) hS (fun H locs hP hS => ?_)
  refine w_topN (a := 1) hp ?_
  refine lv_if_eq (tgt := 18) hx hb dX5_text_7 (by decide) (fun c7 => ?_) (fun c7 => ?_)
  · have qc7 : 1 = 0 := (wn_eq (a := 1) (b := 0) rfl rfl (by omega) (by omega)).mp c7
    exact absurd qc7 (by omega)
  · have qc7 : ¬ 1 = 0 := fun z => c7 ((wn_eq (a := 1) (b := 0) rfl rfl (by omega) (by omega)).mpr z)
    refine lv_iload_n hx hb dX5_text_10 rfl (lv_at hl 3 rfl) ?_
    refine lv_if_lt (tgt := 18) hx hb dX5_text_11 (by decide) (fun c11 => ?_) (fun c11 => ?_)
    · refine lv_iconst (v := 1) hx hb dX5_text_18 (by decide) ?_
      refine w_calli (va_runV (As := [.int (1)]) (rest := []) ⟨hx, hb, hml, hown, hts⟩ (c_X5_fails l nW D cA ad hi hNW I J X H.size 1) (cwV 1 hts gX5_text_X5_fails rfl rfl rfl (by decide +kernel) ⟨Nat.le_of_ble_eq_true rfl, Nat.le_of_ble_eq_true rfl⟩) (w_preV hK hP 102 (by omega) ⟨rfl, rfl⟩ rfl) rfl rfl hl.1 rfl (lv_room (Nat.le_of_ble_eq_true rfl)) dX5_text_19 ⟨Nat.le_of_ble_eq_true rfl, Nat.le_of_ble_eq_true rfl⟩) hS (fun H locs hP hS => ?_)
      refine w_topN (a := 1) (by decide) ?_
      refine lv_if_eq (tgt := 27) hx hb dX5_text_22 (by decide) (fun c22 => ?_) (fun c22 => ?_)
      · have qc22 : 1 = 0 := (wn_eq (a := 1) (b := 0) rfl rfl (by omega) (by omega)).mp c22
        exact absurd qc22 (by omega)
      · have qc22 : ¬ 1 = 0 := fun z => c22 ((wn_eq (a := 1) (b := 0) rfl rfl (by omega) (by omega)).mpr z)
        refine lv_iconst (v := 0) hx hb dX5_text_25 (by decide) ?_
        exact w_zret hx hb hr rfl hlocks hK hP hS ⟨by subst_vars; rfl, by subst_vars; rfl, by subst_vars; rfl, by subst_vars; rfl⟩ dX5_text_26
    · exact absurd hm c11
