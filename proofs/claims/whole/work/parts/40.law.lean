theorem kl_L_13 : CL RL 13 yX10_write cX10_write 2 (some .int) 1 := ⟨(wg_m3 33 (by decide +kernel) rfl), (wg_m3 30 (by decide +kernel) rfl), (wg_m1 1 (by decide +kernel) rfl), ⟨by decide +kernel, by decide +kernel⟩, by decide +kernel, by decide⟩
theorem kl_L_17 : CL RL 17 yX11_write cX11_write 2 (some .int) 1 := ⟨(wg_m4 212 (by decide +kernel) rfl), (wg_m4 209 (by decide +kernel) rfl), (wg_m1 18 (by decide +kernel) rfl), ⟨by decide +kernel, by decide +kernel⟩, by decide +kernel, by decide⟩
theorem kl_L_18 : CL RL 18 yX10_wipe cX10_wipe 2 (some .int) 0 := ⟨(wg_m3 37 (by decide +kernel) rfl), (wg_m3 34 (by decide +kernel) rfl), (wg_m1 1 (by decide +kernel) rfl), ⟨by decide +kernel, by decide +kernel⟩, by decide +kernel, by decide⟩
theorem kl_L_22 : CL RL 22 yX11_wipe cX11_wipe 2 (some .int) 0 := ⟨(wg_m4 221 (by decide +kernel) rfl), (wg_m4 218 (by decide +kernel) rfl), (wg_m1 18 (by decide +kernel) rfl), ⟨by decide +kernel, by decide +kernel⟩, by decide +kernel, by decide⟩
theorem kl_L_23 : CL RL 23 yX10_fault cX10_fault 1 (some .int) 0 := ⟨(wg_m3 41 (by decide +kernel) rfl), (wg_m3 38 (by decide +kernel) rfl), (wg_m1 1 (by decide +kernel) rfl), ⟨by decide +kernel, by decide +kernel⟩, by decide +kernel, by decide⟩
theorem kl_L_26 : CL RL 26 yX11_fault cX11_fault 2 (some .int) 0 := ⟨(wg_m4 225 (by decide +kernel) rfl), (wg_m4 222 (by decide +kernel) rfl), (wg_m1 18 (by decide +kernel) rfl), ⟨by decide +kernel, by decide +kernel⟩, by decide +kernel, by decide⟩
theorem kl_L_27 : CL RL 27 yX10_lay cX10_lay 1 (some .int) 0 := ⟨(wg_m3 45 (by decide +kernel) rfl), (wg_m3 42 (by decide +kernel) rfl), (wg_m1 1 (by decide +kernel) rfl), ⟨by decide +kernel, by decide +kernel⟩, by decide +kernel, by decide⟩
theorem kl_L_30 : CL RL 30 yX11_lay cX11_lay 2 (some .int) 0 := ⟨(wg_m5 3 (by decide +kernel) rfl), (wg_m5 0 (by decide +kernel) rfl), (wg_m1 18 (by decide +kernel) rfl), ⟨by decide +kernel, by decide +kernel⟩, by decide +kernel, by decide⟩
theorem kl_L_31 : CL RL 31 yX10_sat cX10_sat 3 (some .int) 2 := ⟨(wg_m3 49 (by decide +kernel) rfl), (wg_m3 46 (by decide +kernel) rfl), (wg_m1 1 (by decide +kernel) rfl), ⟨by decide +kernel, by decide +kernel⟩, by decide +kernel, by decide⟩
theorem kl_L_35 : CL RL 35 yX11_sat cX11_sat 3 (some .int) 2 := ⟨(wg_m5 8 (by decide +kernel) rfl), (wg_m5 5 (by decide +kernel) rfl), (wg_m1 18 (by decide +kernel) rfl), ⟨by decide +kernel, by decide +kernel⟩, by decide +kernel, by decide⟩
theorem kl_L_36 : CL RL 36 yX10_antenna cX10_antenna 3 (some .int) 2 := ⟨(wg_m3 63 (by decide +kernel) rfl), (wg_m3 60 (by decide +kernel) rfl), (wg_m1 1 (by decide +kernel) rfl), ⟨by decide +kernel, by decide +kernel⟩, by decide +kernel, by decide⟩
theorem kl_L_39 : CL RL 39 yX11_antenna cX11_antenna 4 (some .int) 2 := ⟨(wg_m5 17 (by decide +kernel) rfl), (wg_m5 14 (by decide +kernel) rfl), (wg_m1 18 (by decide +kernel) rfl), ⟨by decide +kernel, by decide +kernel⟩, by decide +kernel, by decide⟩
theorem kl_L_40 : CL RL 40 yX10_seen cX10_seen 4 (some .int) 3 := ⟨(wg_m3 79 (by decide +kernel) rfl), (wg_m3 76 (by decide +kernel) rfl), (wg_m1 1 (by decide +kernel) rfl), ⟨by decide +kernel, by decide +kernel⟩, by decide +kernel, by decide⟩
theorem kl_L_44 : CL RL 44 yX11_seen cX11_seen 4 (some .int) 3 := ⟨(wg_m5 25 (by decide +kernel) rfl), (wg_m5 22 (by decide +kernel) rfl), (wg_m1 18 (by decide +kernel) rfl), ⟨by decide +kernel, by decide +kernel⟩, by decide +kernel, by decide⟩
theorem kl_L_45 : CL RL 45 yX10_pass cX10_pass 3 (some .int) 2 := ⟨(wg_m3 87 (by decide +kernel) rfl), (wg_m3 84 (by decide +kernel) rfl), (wg_m1 1 (by decide +kernel) rfl), ⟨by decide +kernel, by decide +kernel⟩, by decide +kernel, by decide⟩
theorem kl_L_48 : CL RL 48 yX11_pass cX11_pass 5 (some .int) 2 := ⟨(wg_m5 30 (by decide +kernel) rfl), (wg_m5 27 (by decide +kernel) rfl), (wg_m1 18 (by decide +kernel) rfl), ⟨by decide +kernel, by decide +kernel⟩, by decide +kernel, by decide⟩
theorem kl_L_49 : CL RL 49 yX10_rate cX10_rate 3 (some .int) 2 := ⟨(wg_m3 112 (by decide +kernel) rfl), (wg_m3 109 (by decide +kernel) rfl), (wg_m1 1 (by decide +kernel) rfl), ⟨by decide +kernel, by decide +kernel⟩, by decide +kernel, by decide⟩
theorem kl_L_52 : CL RL 52 yX11_rate cX11_rate 3 (some .int) 2 := ⟨(wg_m5 42 (by decide +kernel) rfl), (wg_m5 39 (by decide +kernel) rfl), (wg_m1 18 (by decide +kernel) rfl), ⟨by decide +kernel, by decide +kernel⟩, by decide +kernel, by decide⟩
theorem kl_L_53 : CL RL 53 yX10_give cX10_give 3 (some .int) 2 := ⟨(wg_m3 121 (by decide +kernel) rfl), (wg_m3 118 (by decide +kernel) rfl), (wg_m1 1 (by decide +kernel) rfl), ⟨by decide +kernel, by decide +kernel⟩, by decide +kernel, by decide⟩
theorem kl_L_56 : CL RL 56 yX11_give cX11_give 3 (some .int) 2 := ⟨(wg_m5 70 (by decide +kernel) rfl), (wg_m5 67 (by decide +kernel) rfl), (wg_m1 18 (by decide +kernel) rfl), ⟨by decide +kernel, by decide +kernel⟩, by decide +kernel, by decide⟩
theorem kl_L_57 : CL RL 57 yX10_why cX10_why 3 (some .int) 2 := ⟨(wg_m3 176 (by decide +kernel) rfl), (wg_m3 173 (by decide +kernel) rfl), (wg_m1 1 (by decide +kernel) rfl), ⟨by decide +kernel, by decide +kernel⟩, by decide +kernel, by decide⟩
theorem kl_L_60 : CL RL 60 yX11_why cX11_why 3 (some .int) 2 := ⟨(wg_m5 50 (by decide +kernel) rfl), (wg_m5 47 (by decide +kernel) rfl), (wg_m1 18 (by decide +kernel) rfl), ⟨by decide +kernel, by decide +kernel⟩, by decide +kernel, by decide⟩
theorem kl_L_61 : CL RL 61 yX10_take cX10_take 3 (some .int) 1 := ⟨(wg_m3 180 (by decide +kernel) rfl), (wg_m3 177 (by decide +kernel) rfl), (wg_m1 1 (by decide +kernel) rfl), ⟨by decide +kernel, by decide +kernel⟩, by decide +kernel, by decide⟩
theorem kl_L_64 : CL RL 64 yX11_take cX11_take 3 (some .int) 1 := ⟨(wg_m5 82 (by decide +kernel) rfl), (wg_m5 79 (by decide +kernel) rfl), (wg_m1 18 (by decide +kernel) rfl), ⟨by decide +kernel, by decide +kernel⟩, by decide +kernel, by decide⟩
theorem kl_L_65 : CL RL 65 yX10_out cX10_out 4 (some .int) 3 := ⟨(wg_m3 184 (by decide +kernel) rfl), (wg_m3 181 (by decide +kernel) rfl), (wg_m1 1 (by decide +kernel) rfl), ⟨by decide +kernel, by decide +kernel⟩, by decide +kernel, by decide⟩
theorem kl_L_68 : CL RL 68 yX11_out cX11_out 6 (some .int) 3 := ⟨(wg_m5 86 (by decide +kernel) rfl), (wg_m5 83 (by decide +kernel) rfl), (wg_m1 18 (by decide +kernel) rfl), ⟨by decide +kernel, by decide +kernel⟩, by decide +kernel, by decide⟩
theorem kl_L_69 : CL RL 69 yX10_undo cX10_undo 1 (some .int) 0 := ⟨(wg_m3 192 (by decide +kernel) rfl), (wg_m3 189 (by decide +kernel) rfl), (wg_m1 1 (by decide +kernel) rfl), ⟨by decide +kernel, by decide +kernel⟩, by decide +kernel, by decide⟩
theorem kl_L_72 : CL RL 72 yX11_undo cX11_undo 2 (some .int) 0 := ⟨(wg_m5 66 (by decide +kernel) rfl), (wg_m5 63 (by decide +kernel) rfl), (wg_m1 18 (by decide +kernel) rfl), ⟨by decide +kernel, by decide +kernel⟩, by decide +kernel, by decide⟩
theorem kl_L_73 : CL RL 73 yX10_best cX10_best 3 (some .int) 2 := ⟨(wg_m3 200 (by decide +kernel) rfl), (wg_m3 197 (by decide +kernel) rfl), (wg_m1 1 (by decide +kernel) rfl), ⟨by decide +kernel, by decide +kernel⟩, by decide +kernel, by decide⟩
theorem kl_L_76 : CL RL 76 yX11_best cX11_best 5 (some .int) 2 := ⟨(wg_m5 90 (by decide +kernel) rfl), (wg_m5 87 (by decide +kernel) rfl), (wg_m1 18 (by decide +kernel) rfl), ⟨by decide +kernel, by decide +kernel⟩, by decide +kernel, by decide⟩
theorem kl_L_77 : CL RL 77 yX10_plan cX10_plan 5 (some .int) 4 := ⟨(wg_m3 218 (by decide +kernel) rfl), (wg_m3 215 (by decide +kernel) rfl), (wg_m1 1 (by decide +kernel) rfl), ⟨by decide +kernel, by decide +kernel⟩, by decide +kernel, by decide⟩
theorem kl_L_81 : CL RL 81 yX11_plan cX11_plan 5 (some .int) 4 := ⟨(wg_m5 102 (by decide +kernel) rfl), (wg_m5 99 (by decide +kernel) rfl), (wg_m1 18 (by decide +kernel) rfl), ⟨by decide +kernel, by decide +kernel⟩, by decide +kernel, by decide⟩
theorem kl_L_82 : CL RL 82 yX10_adopt cX10_adopt 4 (some .int) 3 := ⟨(wg_m4 79 (by decide +kernel) rfl), (wg_m4 76 (by decide +kernel) rfl), (wg_m1 1 (by decide +kernel) rfl), ⟨by decide +kernel, by decide +kernel⟩, by decide +kernel, by decide⟩
theorem kl_L_85 : CL RL 85 yX11_adopt cX11_adopt 5 (some .int) 3 := ⟨(wg_m5 140 (by decide +kernel) rfl), (wg_m5 137 (by decide +kernel) rfl), (wg_m1 18 (by decide +kernel) rfl), ⟨by decide +kernel, by decide +kernel⟩, by decide +kernel, by decide⟩
theorem kl_L_86 : CL RL 86 yX10_bound cX10_bound 4 (some .int) 1 := ⟨(wg_m4 84 (by decide +kernel) rfl), (wg_m4 81 (by decide +kernel) rfl), (wg_m1 1 (by decide +kernel) rfl), ⟨by decide +kernel, by decide +kernel⟩, by decide +kernel, by decide⟩
theorem kl_L_89 : CL RL 89 yX11_bound cX11_bound 6 (some .int) 1 := ⟨(wg_m5 144 (by decide +kernel) rfl), (wg_m5 141 (by decide +kernel) rfl), (wg_m1 18 (by decide +kernel) rfl), ⟨by decide +kernel, by decide +kernel⟩, by decide +kernel, by decide⟩
theorem kl_L_90 : CL RL 90 yX10_store cX10_store 4 (some .int) 3 := ⟨(wg_m4 88 (by decide +kernel) rfl), (wg_m4 85 (by decide +kernel) rfl), (wg_m1 1 (by decide +kernel) rfl), ⟨by decide +kernel, by decide +kernel⟩, by decide +kernel, by decide⟩
theorem kl_L_93 : CL RL 93 yX11_store cX11_store 4 (some .int) 3 := ⟨(wg_m5 148 (by decide +kernel) rfl), (wg_m5 145 (by decide +kernel) rfl), (wg_m1 18 (by decide +kernel) rfl), ⟨by decide +kernel, by decide +kernel⟩, by decide +kernel, by decide⟩
theorem kl_L_94 : CL RL 94 yX10_over cX10_over 2 (some .int) 1 := ⟨(wg_m4 93 (by decide +kernel) rfl), (wg_m4 90 (by decide +kernel) rfl), (wg_m1 1 (by decide +kernel) rfl), ⟨by decide +kernel, by decide +kernel⟩, by decide +kernel, by decide⟩
theorem kl_L_97 : CL RL 97 yX11_over cX11_over 2 (some .int) 1 := ⟨(wg_m5 153 (by decide +kernel) rfl), (wg_m5 150 (by decide +kernel) rfl), (wg_m1 18 (by decide +kernel) rfl), ⟨by decide +kernel, by decide +kernel⟩, by decide +kernel, by decide⟩
theorem kl_L_98 : CL RL 98 yX10_count cX10_count 2 (some .int) 1 := ⟨(wg_m4 97 (by decide +kernel) rfl), (wg_m4 94 (by decide +kernel) rfl), (wg_m1 1 (by decide +kernel) rfl), ⟨by decide +kernel, by decide +kernel⟩, by decide +kernel, by decide⟩
theorem kl_L_101 : CL RL 101 yX11_count cX11_count 4 (some .int) 1 := ⟨(wg_m5 157 (by decide +kernel) rfl), (wg_m5 154 (by decide +kernel) rfl), (wg_m1 18 (by decide +kernel) rfl), ⟨by decide +kernel, by decide +kernel⟩, by decide +kernel, by decide⟩
/-! what the pure layer owes, a row a method -/
def layC (h : Mm) : Option (Int32 × Mm) := bd2 (mX7_readAll h) (fun v h1 => if v = -4 then bdh (mX5_find h1) (fun h2 => bdh (mX8_clear h2) (fun h3 => bdh (mX1_clear h3) (fun h4 => bdh (mX6_forget h4) (fun h5 => some (h5 4 6, fun k => h5 (sg k)))))) else some (-2, h1))
def ok_write (Rel : Mm → Mm → Prop) : Prop := ∀ (hc hm : Mm) (a1 : Int32), Rel hc hm → ∃ v : Int32, ∃ hc' : Mm, ∃ hm' : Mm, mX10_write hc a1 = some (v, hc') ∧ mX11_write hm a1 = some (v, hm') ∧ Rel hc' hm'
def ok_wipe (Rel : Mm → Mm → Prop) : Prop := ∀ (hc hm : Mm), Rel hc hm → ∃ v : Int32, ∃ hc' : Mm, ∃ hm' : Mm, mX10_wipe hc = some (v, hc') ∧ mX11_wipe hm = some (v, hm') ∧ Rel hc' hm'
def ok_fault (Rel : Mm → Mm → Prop) : Prop := ∀ (hc hm : Mm), Rel hc hm → ∃ v : Int32, ∃ hc' : Mm, ∃ hm' : Mm, mX10_fault hc = some (v, hc') ∧ mX11_fault hm = some (v, hm') ∧ Rel hc' hm'
def ok_lay (Rel : Mm → Mm → Prop) : Prop := ∀ (hc hm : Mm), Rel hc hm → ∃ v : Int32, ∃ hc' : Mm, ∃ hm' : Mm, layC hc = some (v, hc') ∧ mX11_lay hm = some (v, hm') ∧ Rel hc' hm'
def ok_sat (Rel : Mm → Mm → Prop) : Prop := ∀ (hc hm : Mm) (a1 a2 : Int32), Rel hc hm → ∃ v : Int32, mX10_sat hc a1 a2 = some v ∧ mX11_sat hm a1 a2 = some v ∧ Rel hc hm
def ok_antenna (Rel : Mm → Mm → Prop) : Prop := ∀ (hc hm : Mm) (a1 a2 : Int32), Rel hc hm → ∃ v : Int32, mX10_antenna hc a1 a2 = some v ∧ mX11_antenna hm a1 a2 = some v ∧ Rel hc hm
def ok_seen (Rel : Mm → Mm → Prop) : Prop := ∀ (hc hm : Mm) (a1 a2 a3 : Int32), Rel hc hm → ∃ v : Int32, mX10_seen hc a1 a2 a3 = some v ∧ mX11_seen hm a1 a2 a3 = some v ∧ Rel hc hm
def ok_pass (Rel : Mm → Mm → Prop) : Prop := ∀ (hc hm : Mm) (a1 a2 : Int32), Rel hc hm → ∃ v : Int32, mX10_pass hc a1 a2 = some v ∧ mX11_pass hm a1 a2 = some v ∧ Rel hc hm
def ok_rate (Rel : Mm → Mm → Prop) : Prop := ∀ (hc hm : Mm) (a1 a2 : Int32), Rel hc hm → ∃ v : Int32, mX10_rate hc a1 a2 = some v ∧ mX11_rate hm a1 a2 = some v ∧ Rel hc hm
def ok_give (Rel : Mm → Mm → Prop) : Prop := ∀ (hc hm : Mm) (a1 a2 : Int32), Rel hc hm → ∃ v : Int32, ∃ hc' : Mm, ∃ hm' : Mm, mX10_give hc a1 a2 = some (v, hc') ∧ mX11_give hm a1 a2 = some (v, hm') ∧ Rel hc' hm'
def ok_why (Rel : Mm → Mm → Prop) : Prop := ∀ (hc hm : Mm) (a1 a2 : Int32), Rel hc hm → ∃ v : Int32, mX10_why hc a1 a2 = some v ∧ mX11_why hm a1 a2 = some v ∧ Rel hc hm
def ok_take (Rel : Mm → Mm → Prop) : Prop := ∀ (hc hm : Mm) (a1 : Int32), Rel hc hm → ∃ v : Int32, ∃ hc' : Mm, ∃ hm' : Mm, mX10_take hc a1 = some (v, hc') ∧ mX11_take hm a1 = some (v, hm') ∧ Rel hc' hm'
def ok_out (Rel : Mm → Mm → Prop) : Prop := ∀ (hc hm : Mm) (a1 a2 a3 : Int32), Rel hc hm → ∃ v : Int32, ∃ hc' : Mm, ∃ hm' : Mm, mX10_out hc a1 a2 a3 = some (v, hc') ∧ mX11_out hm a1 a2 a3 = some (v, hm') ∧ Rel hc' hm'
def ok_undo (Rel : Mm → Mm → Prop) : Prop := ∀ (hc hm : Mm), Rel hc hm → ∃ v : Int32, ∃ hc' : Mm, ∃ hm' : Mm, mX10_undo hc = some (v, hc') ∧ mX11_undo hm = some (v, hm') ∧ Rel hc' hm'
def ok_best (Rel : Mm → Mm → Prop) : Prop := ∀ (hc hm : Mm) (a1 a2 : Int32), Rel hc hm → ∃ v : Int32, ∃ hc' : Mm, ∃ hm' : Mm, mX10_best hc a1 a2 = some (v, hc') ∧ mX11_best hm a1 a2 = some (v, hm') ∧ Rel hc' hm'
def ok_plan (Rel : Mm → Mm → Prop) : Prop := ∀ (hc hm : Mm) (a1 a2 a3 a4 : Int32), Rel hc hm → ∃ v : Int32, ∃ hc' : Mm, ∃ hm' : Mm, mX10_plan hc a1 a2 a3 a4 = some (v, hc') ∧ mX11_plan hm a1 a2 a3 a4 = some (v, hm') ∧ Rel hc' hm'
def ok_adopt (Rel : Mm → Mm → Prop) : Prop := ∀ (hc hm : Mm) (a1 a2 a3 : Int32), Rel hc hm → ∃ v : Int32, ∃ hc' : Mm, ∃ hm' : Mm, mX10_adopt hc a1 a2 a3 = some (v, hc') ∧ mX11_adopt hm a1 a2 a3 = some (v, hm') ∧ Rel hc' hm'
def ok_bound (Rel : Mm → Mm → Prop) : Prop := ∀ (hc hm : Mm) (a1 : Int32), Rel hc hm → ∃ v : Int32, mX10_bound hc a1 = some v ∧ mX11_bound hm a1 = some v ∧ Rel hc hm
def ok_store (Rel : Mm → Mm → Prop) : Prop := ∀ (hc hm : Mm) (a1 a2 a3 : Int32), Rel hc hm → ∃ v : Int32, ∃ hc' : Mm, ∃ hm' : Mm, mX10_store hc a1 a2 a3 = some (v, hc') ∧ mX11_store hm a1 a2 a3 = some (v, hm') ∧ Rel hc' hm'
def ok_over (Rel : Mm → Mm → Prop) : Prop := ∀ (hc hm : Mm) (a1 : Int32), Rel hc hm → ∃ v : Int32, ∃ hc' : Mm, ∃ hm' : Mm, mX10_over hc a1 = some (v, hc') ∧ mX11_over hm a1 = some (v, hm') ∧ Rel hc' hm'
def ok_count (Rel : Mm → Mm → Prop) : Prop := ∀ (hc hm : Mm) (a1 : Int32), Rel hc hm → ∃ v : Int32, ∃ hc' : Mm, ∃ hm' : Mm, mX10_count hc a1 = some (v, hc') ∧ mX11_count hm a1 = some (v, hm') ∧ Rel hc' hm'
def StepsOK (Rel : Mm → Mm → Prop) : Prop := ok_write Rel ∧ ok_wipe Rel ∧ ok_fault Rel ∧ ok_lay Rel ∧ ok_sat Rel ∧ ok_antenna Rel ∧ ok_seen Rel ∧ ok_pass Rel ∧ ok_rate Rel ∧ ok_give Rel ∧ ok_why Rel ∧ ok_take Rel ∧ ok_out Rel ∧ ok_undo Rel ∧ ok_best Rel ∧ ok_plan Rel ∧ ok_adopt Rel ∧ ok_bound Rel ∧ ok_store Rel ∧ ok_over Rel ∧ ok_count Rel
/-- lay(): layText's answer -/
theorem mt_X10_lay {l : Launch} {D : va_G} {ad : Nat → Nat} {ac : Nat → ClassId} {h : Mm} {r : Option Value} {ad' : Nat → Nat} {h' : Mm} {v : Int32} (hr : r = some (.int v)) (hM : MtX l D ad ac LC rlC yX10_layText cX10_layText 2 (some .int) 20 [.ref (ad 0)] h r ad' LC h') : MtX l D ad ac LC rlC yX10_lay cX10_lay 1 (some .int) 21 [.ref (ad 0)] h r ad' LC h' := by
  subst hr
  refine MtX.of (own := RX10) (by decide) rfl (Nat.le_of_ble_eq_true rfl) ?_
  intro p e s m below meth c ls X hH hl
  have hl : lv_has ls 1 [(0, .ref (ad 0))] := hl
  refine lv_aload_n X.1 X.2.1 dX10_lay_0 rfl (lv_at hl 0 rfl) ?_
  have hrecv := va_recv (D := D) X.2.2.2.2.2.2.2.1.1 hH.1 (ci := 10) rfl (wd_at lC_0)
  have hrun := va_runV (C := RX10) (As := []) (rest := []) (b := ad 0) (g := F0 m 1 ls [.ref (ad 0)]) (below := below) (meth := meth) (e := e) (locs := []) (cells := 0) (slots := 0) ⟨X.1, X.2.1, X.2.2.1, X.2.2.2.1, X.2.2.2.2.1⟩ (hM s.heap.size) ⟨CL.B X kl_X10_74 (d := 21) (by decide), X.2.2.2.2.1 _ kv_X10_layText.1, X.2.2.2.2.1 _ kv_X10_layText.2⟩ ⟨PU.blind, hrecv, fun U hU hWm => ⟨rfl, PU.ready X hH hU hWm⟩⟩ rfl rfl hl.1 rfl (lv_room (Nat.le_of_ble_eq_true rfl)) dX10_lay_1 ⟨Nat.zero_le _, Nat.zero_le _⟩
  intro T hT X1
  obtain ⟨v', st₀, t, T', L1, h0, X', hL, e1, e2, ⟨hv, hp, hz, hk⟩, stp⟩ := hrun T hT X1
  cases hv
  rw [h0] at hz hk
  have hS : va_S (Aa ad LC.length s.heap.size) s.heap T'.heap ([] ++ L1) := ⟨by rw [e1]; exact hz, fun q h1 h2 => by rw [e1]; exact hk q h1 h2, fun q hq => by
    rcases List.mem_append.mp hq with h | h
    · cases h
    · exact hL q h⟩
  have hW := W.iret (p := p) (l := l) (e := e) (R := rmD 21) (below := below) (meth := meth) (args := #[.ref (ad 0)]) (s := s) (m := m) (H := T'.heap) (locs := [] ++ L1) (cells := 0) (slots := 0) (pc := 4) (ls := ls) (Qc := QX D ad LC.length ac (some (.int v)) ad' LC h' s.heap.size) (free := Aa ad LC.length s.heap.size) (v := v) X.1 X.2.1 X.2.2.2.2.2.1 (fun t2 ht2 hW2 => ⟨rfl, by rw [ht2, e1]; exact hp, hS.F ht2⟩) hS.2.2 dX10_lay_4 X.2.2.2.2.2.2.1
  obtain ⟨t2, a1, b1⟩ := hW T' rfl X'
  exact ⟨t2, stp t2 a1, b1⟩
theorem mt_layC {l : Launch} {D : va_G} {ad : Nat → Nat} {ac : Nat → ClassId} {h h' : Mm} {v : Int32} (hm : layC h = some (v, h')) : MtX l D ad ac LC rlC yX10_lay cX10_lay 1 (some .int) 21 [.ref (ad 0)] h (some (.int v)) ad LC h' ∨ MtX l D ad ac LC rlC yX10_lay cX10_lay 1 (some .int) 21 [.ref (ad 0)] h (some (.int v)) (fun k => ad (sg k)) LC h' := by
  unfold layC at hm
  obtain ⟨v1, h1, hq, hm⟩ := bd2_some hm
  by_cases hv : v1 = -4
  · rw [if_pos hv] at hm
    subst hv
    obtain ⟨h2, hf, hm⟩ := bdh_some hm
    obtain ⟨h3, hc, hm⟩ := bdh_some hm
    obtain ⟨h4, hk, hm⟩ := bdh_some hm
    obtain ⟨h5, hg, hm⟩ := bdh_some hm
    cases hm
    exact Or.inr (mt_X10_lay rfl (mt_X10_layYes hq hf hc hk hg))
  · rw [if_neg hv] at hm
    cases hm
    exact Or.inl (mt_X10_lay rfl (mt_X10_layNo hq hv))
/-! the law's two worlds -/
def WW (D : va_G) (ac : Nat → ClassId) (ad1 ad2 : Nat → Nat) (hc hm : Mm) (s : State) (H : Heap) (locs : List Loc) : Prop := va_P D vwCl (wd ad1 ac LC hc) H ∧ va_P D vwCl (wd ad2 ac LM hm) H ∧ va_S (fun q => s.heap.size ≤ q) s.heap H locs
def AF (ad1 ad2 : Nat → Nat) (s : State) : Prop := Inj ad1 LC.length ∧ Inj ad2 LM.length ∧ (∀ i j, i < LC.length → j < LM.length → ad1 i ≠ ad2 j) ∧ (∀ i, i < LC.length → s.heap.size ≤ ad1 i) ∧ (∀ j, j < LM.length → s.heap.size ≤ ad2 j) ∧ RoP ad1 rlC (fun q => s.heap.size ≤ q) s s.heap
def LB (p : Program) (s : State) (m : MethodId) (meth : Method) (c : Code) (D : va_G) (ac : Nat → ClassId) (b : Nat) : Prop :=
  p.tables.exec = Jvm.exec ∧ c.code = code ∧ c.maxLocals = 4 ∧ s.vm.findClass RL = some m.cls ∧ (∀ w ∈ wg, w.before #[Value.ref b] s = true) ∧ meth.sig.returnType = Jvm.Pilot.CStationPassesLaw_law_r8393_9dae16.ret ∧ meth.locks = false ∧ Cx D ac s
section LAWROWS
variable {p : Program} {l : Launch} {e : Env} {R : Room} {s : State} {m : MethodId} {b : Nat} {below : List Frame} {meth : Method} {c : Code} {H : Heap} {locs : List Loc} {cells slots : Nat} {Q : State → Prop}
variable {D : va_G} {ac : Nat → ClassId} {ad1 ad2 ad3 : Nat → Nat} {hc hm h' : Mm} {pc : Nat} {ls : Array Slot} {rest st : List Value} {index n d1 : Nat} {y : MethodName} {cc1 : ByteArray} {nL1 : Nat} {As : List Value} {v : Int32}
theorem Aa_ge {ad : Nat → Nat} {n z q : Nat} (h : ∀ i, i < n → z ≤ ad i) (hq : Aa ad n z q) : z ≤ q := by
  rcases hq with ⟨k, hk, rfl⟩ | hq
  · exact h k hk
  · exact hq
theorem FxC (B : LB p s m meth c D ac b) (F : AF ad1 ad2 s) : Fx p s m #[Value.ref b] meth c code 4 RL Jvm.Pilot.CStationPassesLaw_law_r8393_9dae16.ret D ad1 ac LC rlC := ⟨B.1, B.2.1, B.2.2.1, B.2.2.2.1, B.2.2.2.2.1, B.2.2.2.2.2.1, B.2.2.2.2.2.2.1, B.2.2.2.2.2.2.2, F.1, fun q hq => (F.2.2.2.2.2 q hq).narrow (fun z hz => Aa_ge F.2.2.2.1 hz)⟩
theorem FxM (B : LB p s m meth c D ac b) (F : AF ad1 ad2 s) : Fx p s m #[Value.ref b] meth c code 4 RL Jvm.Pilot.CStationPassesLaw_law_r8393_9dae16.ret D ad2 ac LM [] := ⟨B.1, B.2.1, B.2.2.1, B.2.2.2.1, B.2.2.2.2.1, B.2.2.2.2.2.1, B.2.2.2.2.2.2.1, B.2.2.2.2.2.2.2, F.2.1, fun q hq => by cases hq⟩
theorem va_S.wide {A A' : Nat → Prop} {H0 H1 : Heap} {lc : List Loc} (h : va_S A H0 H1 lc) (hA : ∀ q, A q → A' q) : va_S A' H0 H1 lc := ⟨h.1, fun q h1 h2 => h.2.1 q h1 (fun z => h2 (hA q z)), fun q hq => hA _ (h.2.2 q hq)⟩
/-- x's method -/
theorem lawC (B : LB p s m meth c D ac b) (F : AF ad1 ad2 s) (hW : WW D ac ad1 ad2 hc hm s H locs) (hC : CL RL index y cc1 nL1 (some .int) n) (hV : CLv y) (hcl : y.cls = RX10) (hM : Mt l D ad1 ac LC rlC y cc1 nL1 (some .int) d1 (.ref (ad1 0) :: As) hc (some (.int v)) h') (hn : As.length = n) (hfr : d1 + 1 ≤ R.frames) (hlo : 39 + 40 * d1 ≤ R.locals) (hcs : cells ≤ R.cells ∧ slots ≤ R.slots) (hls : ls.size = 4) (hst : st = As.reverse ++ .ref (ad1 0) :: rest) (hR : (rest.map fun v => v.category).sum ≤ 8) (hdg : decode code pc = .ok (.invokevirtual index, 3))
    (kk : ∀ (H1 : Heap) (locs1 : List Loc), WW D ac ad1 ad2 h' hm s H1 locs1 → W p l e R s m #[Value.ref b] below meth c H1 locs1 cells slots Q (F0 m (pc + 3) ls (.int v :: rest))) : W p l e R s m #[Value.ref b] below meth c H locs cells slots Q (F0 m pc ls st) := by
  have X := FxC B F
  have hH : Hp D ad1 ac LC hc s H locs := ⟨hW.1, hW.2.2.wide (fun q h => Or.inr h)⟩
  have hrecv := va_recv (D := D) X.2.2.2.2.2.2.2.1.1 hH.1 (ci := 10) rfl (wd_at lC_0)
  have hrun := va_runV (C := y.cls) (As := As) (rest := rest) (b := ad1 0) (g := F0 m pc ls st) (below := below) (meth := meth) (e := e) (locs := locs) (cells := cells) (slots := slots) ⟨X.1, X.2.1, X.2.2.1, X.2.2.2.1, X.2.2.2.2.1⟩ (hM H.size) ⟨CL.BG X.2.2.2.2.1 hC hfr hlo, X.2.2.2.2.1 _ hV.1, X.2.2.2.2.1 _ hV.2⟩ ⟨PU.blind, by rw [hcl]; exact hrecv, fun U hU hWm => ⟨rfl, PU.ready X hH hU hWm⟩⟩ rfl hn hls hst (lv_room hR) hdg ⟨hcs.1, hcs.2⟩
  intro T hT X1
  obtain ⟨v', st₀, t, T', L1, h0, X', hL, e1, e2, ⟨hv, hp, hz, hk⟩, stp⟩ := hrun T hT X1
  cases hv
  rw [h0] at hz hk
  have k1 : WW D ac ad1 ad2 h' hm s T'.heap (locs ++ L1) := by
    refine ⟨by rw [e1]; exact hp, fun k q hq => ?_, Nat.le_trans hW.2.2.1 (by rw [e1]; exact hz), fun q h1 h2 => ?_, fun q hq => ?_⟩
    · have hl := (hW.2.1 k q hq).lt
      refine (hW.2.1 k q hq).kept ?_
      rw [e1]
      refine hk q.1 hl (fun h => ?_)
      obtain ⟨d, hd, rfl⟩ := wd_inv hq
      rcases h with ⟨i, hi, h⟩ | h
      · exact F.2.2.1 i k hi (List.getElem?_eq_some_iff.mp hd).1 h
      · exact absurd hl (Nat.not_lt.mpr h)
    · rw [e1, hk q (Nat.lt_of_lt_of_le h1 hW.2.2.1) (fun z => h2 (Aa_ge F.2.2.2.1 (Aa.le hW.2.2.1 z)))]
      exact hW.2.2.2.1 q h1 h2
    · rcases List.mem_append.mp hq with h | h
      · exact hW.2.2.2.2 q h
      · exact Aa_ge F.2.2.2.1 (Aa.le hW.2.2.1 (hL q h))
  obtain ⟨t2, a1, b1⟩ := kk T'.heap (locs ++ L1) k1 T' rfl X'
  exact ⟨t2, stp t2 a1, b1⟩
/-- m's method -/
theorem lawM (B : LB p s m meth c D ac b) (F : AF ad1 ad2 s) (hW : WW D ac ad1 ad2 hc hm s H locs) (hC : CL RL index y cc1 nL1 (some .int) n) (hV : CLv y) (hcl : y.cls = RX11) (hM : Mt l D ad2 ac LM [] y cc1 nL1 (some .int) d1 (.ref (ad2 0) :: As) hm (some (.int v)) h') (hn : As.length = n) (hfr : d1 + 1 ≤ R.frames) (hlo : 39 + 40 * d1 ≤ R.locals) (hcs : cells ≤ R.cells ∧ slots ≤ R.slots) (hls : ls.size = 4) (hst : st = As.reverse ++ .ref (ad2 0) :: rest) (hR : (rest.map fun v => v.category).sum ≤ 8) (hdg : decode code pc = .ok (.invokevirtual index, 3))
    (kk : ∀ (H1 : Heap) (locs1 : List Loc), WW D ac ad1 ad2 hc h' s H1 locs1 → W p l e R s m #[Value.ref b] below meth c H1 locs1 cells slots Q (F0 m (pc + 3) ls (.int v :: rest))) : W p l e R s m #[Value.ref b] below meth c H locs cells slots Q (F0 m pc ls st) := by
  have X := FxM B F
  have hH : Hp D ad2 ac LM hm s H locs := ⟨hW.2.1, hW.2.2.wide (fun q h => Or.inr h)⟩
  have hrecv := va_recv (D := D) X.2.2.2.2.2.2.2.1.1 hH.1 (ci := 11) rfl (wd_at lM_0)
  have hrun := va_runV (C := y.cls) (As := As) (rest := rest) (b := ad2 0) (g := F0 m pc ls st) (below := below) (meth := meth) (e := e) (locs := locs) (cells := cells) (slots := slots) ⟨X.1, X.2.1, X.2.2.1, X.2.2.2.1, X.2.2.2.2.1⟩ (hM H.size) ⟨CL.BG X.2.2.2.2.1 hC hfr hlo, X.2.2.2.2.1 _ hV.1, X.2.2.2.2.1 _ hV.2⟩ ⟨PU.blind, by rw [hcl]; exact hrecv, fun U hU hWm => ⟨rfl, PU.ready X hH hU hWm⟩⟩ rfl hn hls hst (lv_room hR) hdg ⟨hcs.1, hcs.2⟩
  intro T hT X1
  obtain ⟨v', st₀, t, T', L1, h0, X', hL, e1, e2, ⟨hv, hp, hz, hk⟩, stp⟩ := hrun T hT X1
  cases hv
  rw [h0] at hz hk
  have k1 : WW D ac ad1 ad2 hc h' s T'.heap (locs ++ L1) := by
    refine ⟨fun k q hq => ?_, by rw [e1]; exact hp, Nat.le_trans hW.2.2.1 (by rw [e1]; exact hz), fun q h1 h2 => ?_, fun q hq => ?_⟩
    · have hl := (hW.1 k q hq).lt
      refine (hW.1 k q hq).kept ?_
      rw [e1]
      refine hk q.1 hl (fun h => ?_)
      obtain ⟨d, hd, rfl⟩ := wd_inv hq
      rcases h with ⟨i, hi, h⟩ | h
      · exact F.2.2.1 k i (List.getElem?_eq_some_iff.mp hd).1 hi h.symm
      · exact absurd hl (Nat.not_lt.mpr h)
    · rw [e1, hk q (Nat.lt_of_lt_of_le h1 hW.2.2.1) (fun z => h2 (Aa_ge F.2.2.2.2.1 (Aa.le hW.2.2.1 z)))]
      exact hW.2.2.2.1 q h1 h2
    · rcases List.mem_append.mp hq with h | h
      · exact hW.2.2.2.2 q h
      · exact Aa_ge F.2.2.2.2.1 (Aa.le hW.2.2.1 (hL q h))
  obtain ⟨t2, a1, b1⟩ := kk T'.heap (locs ++ L1) k1 T' rfl X'
  exact ⟨t2, stp t2 a1, b1⟩
/-- x.lay() -/
theorem lawL (B : LB p s m meth c D ac b) (F : AF ad1 ad2 s) (hW : WW D ac ad1 ad2 hc hm s H locs) (hC : CL RL index yX10_lay cX10_lay 1 (some .int) 0) (hV : CLv yX10_lay) (hM : MtX l D ad1 ac LC rlC yX10_lay cX10_lay 1 (some .int) 21 [.ref (ad1 0)] hc (some (.int v)) ad3 LC h') (hfr : 22 ≤ R.frames) (hlo : 879 ≤ R.locals) (hcs : cells ≤ R.cells ∧ slots ≤ R.slots) (hls : ls.size = 4) (hst : st = .ref (ad1 0) :: rest) (hR : (rest.map fun v => v.category).sum ≤ 8) (hdg : decode code pc = .ok (.invokevirtual index, 3))
    (kk : ∀ (H1 : Heap) (locs1 : List Loc), WW D ac ad3 ad2 h' hm s H1 locs1 → W p l e R s m #[Value.ref b] below meth c H1 locs1 cells slots Q (F0 m (pc + 3) ls (.int v :: rest))) : W p l e R s m #[Value.ref b] below meth c H locs cells slots Q (F0 m pc ls st) := by
  have X := FxC B F
  have hH : Hp D ad1 ac LC hc s H locs := ⟨hW.1, hW.2.2.wide (fun q h => Or.inr h)⟩
  have hrecv := va_recv (D := D) X.2.2.2.2.2.2.2.1.1 hH.1 (ci := 10) rfl (wd_at lC_0)
  have hrun := va_runV (C := RX10) (As := []) (rest := rest) (b := ad1 0) (g := F0 m pc ls st) (below := below) (meth := meth) (e := e) (locs := locs) (cells := cells) (slots := slots) ⟨X.1, X.2.1, X.2.2.1, X.2.2.2.1, X.2.2.2.2.1⟩ (hM H.size) ⟨CL.BG X.2.2.2.2.1 hC hfr hlo, X.2.2.2.2.1 _ hV.1, X.2.2.2.2.1 _ hV.2⟩ ⟨PU.blind, hrecv, fun U hU hWm => ⟨rfl, PU.ready X hH hU hWm⟩⟩ rfl rfl hls hst (lv_room hR) hdg ⟨hcs.1, hcs.2⟩
  intro T hT X1
  obtain ⟨v', st₀, t, T', L1, h0, X', hL, e1, e2, ⟨hv, hp, hz, hk⟩, stp⟩ := hrun T hT X1
  cases hv
  rw [h0] at hz hk
  have k1 : WW D ac ad3 ad2 h' hm s T'.heap (locs ++ L1) := by
    refine ⟨by rw [e1]; exact hp, fun k q hq => ?_, Nat.le_trans hW.2.2.1 (by rw [e1]; exact hz), fun q h1 h2 => ?_, fun q hq => ?_⟩
    · have hl := (hW.2.1 k q hq).lt
      refine (hW.2.1 k q hq).kept ?_
      rw [e1]
      refine hk q.1 hl (fun h => ?_)
      obtain ⟨d, hd, rfl⟩ := wd_inv hq
      rcases h with ⟨i, hi, h⟩ | h
      · exact F.2.2.1 i k hi (List.getElem?_eq_some_iff.mp hd).1 h
      · exact absurd hl (Nat.not_lt.mpr h)
    · rw [e1, hk q (Nat.lt_of_lt_of_le h1 hW.2.2.1) (fun z => h2 (Aa_ge F.2.2.2.1 (Aa.le hW.2.2.1 z)))]
      exact hW.2.2.2.1 q h1 h2
    · rcases List.mem_append.mp hq with h | h
      · exact hW.2.2.2.2 q h
      · exact Aa_ge F.2.2.2.1 (Aa.le hW.2.2.1 (hL q h))
  obtain ⟨t2, a1, b1⟩ := kk T'.heap (locs ++ L1) k1 T' rfl X'
  exact ⟨t2, stp t2 a1, b1⟩
theorem AF_sg (F : AF ad1 ad2 s) : AF (fun k => ad1 (sg k)) ad2 s := by
  refine ⟨sg_I F.1, F.2.1, fun i j hi hj => F.2.2.1 _ j (sg_lt hi) hj, fun i hi => F.2.2.2.1 _ (sg_lt hi), F.2.2.2.2.1, fun q hq => ?_⟩
  have h1000 : ∀ q ∈ rlC, sg q.1 = q.1 := by
    intro q hq
    simp only [rlC, List.mem_cons, List.not_mem_nil, or_false] at hq
    rcases hq with rfl | rfl | rfl | rfl | rfl | rfl <;> rfl
  show va_T .int (ad1 (sg q.1)) _ _ _ _ _
  rw [h1000 q hq]
  exact F.2.2.2.2.2 q hq
end LAWROWS
theorem law_len {L k : Nat} (hL : L ≤ 2560) (hk : 5 * k ≤ L + 5) : (Int32.ofNat L - 5 < nI (5 * k)) ↔ L < 5 * k + 5 := by
  rw [Int32.lt_iff_toInt_lt, show (Int32.ofNat L - 5) = nI L - nI 5 from rfl, pk_sub_toInt (by omega) (by omega), nI_toInt (by omega)]
  omega
theorem law_in {L k j : Nat} (hL : L ≤ 2560) (hk : 5 * k + 5 ≤ L) (hj : j < 5) : vp_in (nI (5 * k) + nI j) L := by
  rw [nI_add]; exact vp_in_nI (by omega) (by omega)
set_option maxHeartbeats 8000000 in
set_option maxRecDepth 20000 in
theorem law_loop {Rel : Mm → Mm → Prop} (hst : StepsOK Rel) {p : Program} {l : Launch} {e : Env} {s : State} {m : MethodId} {b : Nat} {below : List Frame} {meth : Method} {c : Code} {D : va_G} {ac : Nat → ClassId} {L : Nat} {xs : Nat → Int32} {cells slots : Nat} (hL : L ≤ 2560) (B : LB p s m meth c D ac b) (hX : va_X b L xs s s.heap) (hbl : b < s.heap.size) (hcs : cells ≤ 600000 ∧ slots ≤ 7302250) : ∀ (n k : Nat) (hc hm : Mm) (ad1 ad2 : Nat → Nat) (H : Heap) (locs : List Loc) (ls : Array Slot), L + 5 < 5 * k + n → 5 * k ≤ L + 5 → Rel hc hm → AF ad1 ad2 s → WW D ac ad1 ad2 hc hm s H locs → lv_has ls 4 [(0, .ref b), (1, .ref (ad1 0)), (2, .ref (ad2 0)), (3, .int (nI (5 * k)))] → W p l e room_1 s m #[Value.ref b] below meth c H locs cells slots (lw_Z below #[Value.ref b] s) (F0 m 18 ls []) := by
  obtain ⟨s_0, s_1, s_2, s_3, s_4, s_5, s_6, s_7, s_8, s_9, s_10, s_11, s_12, s_13, s_14, s_15, s_16, s_17, s_18, s_19, s_20⟩ := hst
  obtain ⟨hx, hb, hml, hown, hts, hr, hlk, hC⟩ := id B
  have hbA : ¬ s.heap.size ≤ b := by omega
  intro n
  induction n with
  | zero => intro k hc hm ad1 ad2 H locs ls h1 h2; omega
  | succ n ih =>
    intro k hc hm ad1 ad2 H locs ls hn hk hR F hW hl
    refine lv_iload_n hx hb dL_law_18 rfl (lv_at hl 3 rfl) ?_
    refine lv_aload_n hx hb dL_law_19 rfl (lv_at hl 0 rfl) ?_
    refine va_slen hx hb hX hbl hbA hW.2.2 dL_law_20 ?_
    refine lv_iconst (v := 5) hx hb dL_law_21 (by decide) ?_
    refine lv_isub hx hb dL_law_22 ?_
    refine lv_icmp_gt hx hb dL_law_23 (tgt := 761) (by decide) (fun hcc => ?_) (fun hcc => ?_)
    · refine lv_iconst (v := 1) hx hb dL_law_761 (by decide) ?_
      refine va_forget (fun q hq => hW.2.2.2.2 q hq) ?_
      refine W.widen (k := 600000) (n := 7302250) hcs.1 hcs.2 ?_
      exact lw_ret hx hb hr hlk dL_law_762
    · have h5 : 5 * k + 5 ≤ L := by exact Nat.not_lt.mp (fun z => hcc ((law_len hL hk).mpr z))
      have next : ∀ (hc hm : Mm) (ad1 ad2 : Nat → Nat) (H : Heap) (locs : List Loc), Rel hc hm → AF ad1 ad2 s → WW D ac ad1 ad2 hc hm s H locs → lv_has ls 4 [(0, .ref b), (1, .ref (ad1 0)), (2, .ref (ad2 0)), (3, .int (nI (5 * k)))] → W p l e room_1 s m #[Value.ref b] below meth c H locs cells slots (lw_Z below #[Value.ref b] s) (F0 m 755 ls []) := by
        intro hc hm ad1 ad2 H locs hR F hW hl
        refine lv_iinc (k := 3) (v := nI (5 * (k + 1))) (lv' := [(3, .int (nI (5 * (k + 1)))), (0, .ref b), (1, .ref (ad1 0)), (2, .ref (ad2 0))]) hx hb dL_law_755 hl rfl (by rw [show Int32.ofInt 5 = nI 5 from rfl, nI_add]; rfl) (by decide) rfl (fun ls hl => ?_)
        refine lv_goto hx hb dL_law_758 (tgt := 18) (by decide) ?_
        exact ih (k + 1) hc hm ad1 ad2 H locs ls (by omega) (by omega) hR F hW (lv_sub hl [1, 2, 3, 0] rfl)
      refine lv_aload_n hx hb dL_law_26 rfl (lv_at hl 0 rfl) ?_
      refine lv_iload_n hx hb dL_law_27 rfl (lv_at hl 3 rfl) ?_
      refine va_sld hx hb hX hbl hbA hW.2.2 (by have := law_in (j := 0) hL h5 (by omega); rw [nI_0, Int32.add_zero] at this; exact this) dL_law_28 ?_
      refine lv_bipush (v := 31) hx hb dL_law_29 (by decide) ?_
      refine lv_iand hx hb dL_law_31 ?_
      generalize xs (nI (5 * k)).toNatClampNeg &&& 31 = sw
      by_cases hc0 : sw = 0
      · refine lv_tableIn hx hb dL_law_32 (by rw [hc0]; decide) (by rw [hc0]; decide) (off := 100) (by rw [hc0]; rfl) (tgt := 132) (by decide) ?_
        obtain ⟨v, hc', hm', e1, e2, hR⟩ := s_0 hc hm (xs (nI (5 * k) + 1).toNatClampNeg) hR
        refine lv_aload_n hx hb dL_law_132 rfl (lv_at hl 1 rfl) ?_
        refine lv_aload_n hx hb dL_law_133 rfl (lv_at hl 0 rfl) ?_
        refine lv_iload_n hx hb dL_law_134 rfl (lv_at hl 3 rfl) ?_
        refine lv_iconst (v := 1) hx hb dL_law_135 (by decide) ?_
        refine lv_iadd hx hb dL_law_136 ?_
        refine va_sld hx hb hX hbl hbA hW.2.2 (law_in (j := 1) hL h5 (by omega)) dL_law_137 ?_
        refine lawC (As := [.int (xs (nI (5 * k) + 1).toNatClampNeg)]) B F hW kl_L_13 kv_X10_write rfl (mt_X10_write e1) rfl (Nat.le_of_ble_eq_true rfl) (Nat.le_of_ble_eq_true rfl) hcs hl.1 rfl (Nat.le_of_ble_eq_true rfl) dL_law_138 (fun H locs hW => ?_)
        refine lv_aload_n hx hb dL_law_141 rfl (lv_at hl 2 rfl) ?_
        refine lv_aload_n hx hb dL_law_142 rfl (lv_at hl 0 rfl) ?_
        refine lv_iload_n hx hb dL_law_143 rfl (lv_at hl 3 rfl) ?_
        refine lv_iconst (v := 1) hx hb dL_law_144 (by decide) ?_
        refine lv_iadd hx hb dL_law_145 ?_
        refine va_sld hx hb hX hbl hbA hW.2.2 (law_in (j := 1) hL h5 (by omega)) dL_law_146 ?_
        refine lawM (As := [.int (xs (nI (5 * k) + 1).toNatClampNeg)]) B F hW kl_L_17 kv_X11_write rfl (mt_X11_write e2) rfl (Nat.le_of_ble_eq_true rfl) (Nat.le_of_ble_eq_true rfl) hcs hl.1 rfl (Nat.le_of_ble_eq_true rfl) dL_law_147 (fun H locs hW => ?_)
        refine lv_icmp_eq hx hb dL_law_150 (tgt := 755) (by decide) (fun _ => ?_) (fun hne => absurd rfl hne)
        exact next hc' hm' ad1 ad2 H locs hR F hW hl
      by_cases hc1 : sw = 1
      · refine lv_tableIn hx hb dL_law_32 (by rw [hc1]; decide) (by rw [hc1]; decide) (off := 123) (by rw [hc1]; rfl) (tgt := 155) (by decide) ?_
        obtain ⟨v, hc', hm', e1, e2, hR⟩ := s_1 hc hm hR
        refine lv_aload_n hx hb dL_law_155 rfl (lv_at hl 1 rfl) ?_
        refine lawC (As := []) B F hW kl_L_18 kv_X10_wipe rfl (mt_X10_wipe e1) rfl (Nat.le_of_ble_eq_true rfl) (Nat.le_of_ble_eq_true rfl) hcs hl.1 rfl (Nat.le_of_ble_eq_true rfl) dL_law_156 (fun H locs hW => ?_)
        refine lv_aload_n hx hb dL_law_159 rfl (lv_at hl 2 rfl) ?_
        refine lawM (As := []) B F hW kl_L_22 kv_X11_wipe rfl (mt_X11_wipe e2) rfl (Nat.le_of_ble_eq_true rfl) (Nat.le_of_ble_eq_true rfl) hcs hl.1 rfl (Nat.le_of_ble_eq_true rfl) dL_law_160 (fun H locs hW => ?_)
        refine lv_icmp_eq hx hb dL_law_163 (tgt := 755) (by decide) (fun _ => ?_) (fun hne => absurd rfl hne)
        exact next hc' hm' ad1 ad2 H locs hR F hW hl
      by_cases hc2 : sw = 2
      · refine lv_tableIn hx hb dL_law_32 (by rw [hc2]; decide) (by rw [hc2]; decide) (off := 136) (by rw [hc2]; rfl) (tgt := 168) (by decide) ?_
        obtain ⟨v, hc', hm', e1, e2, hR⟩ := s_2 hc hm hR
        refine lv_aload_n hx hb dL_law_168 rfl (lv_at hl 1 rfl) ?_
        refine lawC (As := []) B F hW kl_L_23 kv_X10_fault rfl (mt_X10_fault e1) rfl (Nat.le_of_ble_eq_true rfl) (Nat.le_of_ble_eq_true rfl) hcs hl.1 rfl (Nat.le_of_ble_eq_true rfl) dL_law_169 (fun H locs hW => ?_)
        refine lv_aload_n hx hb dL_law_172 rfl (lv_at hl 2 rfl) ?_
        refine lawM (As := []) B F hW kl_L_26 kv_X11_fault rfl (mt_X11_fault e2) rfl (Nat.le_of_ble_eq_true rfl) (Nat.le_of_ble_eq_true rfl) hcs hl.1 rfl (Nat.le_of_ble_eq_true rfl) dL_law_173 (fun H locs hW => ?_)
        refine lv_icmp_eq hx hb dL_law_176 (tgt := 755) (by decide) (fun _ => ?_) (fun hne => absurd rfl hne)
        exact next hc' hm' ad1 ad2 H locs hR F hW hl
      by_cases hc3 : sw = 3
      · refine lv_tableIn hx hb dL_law_32 (by rw [hc3]; decide) (by rw [hc3]; decide) (off := 149) (by rw [hc3]; rfl) (tgt := 181) (by decide) ?_
        obtain ⟨v, hc', hm', e1, e2, hR⟩ := s_3 hc hm hR
        refine lv_aload_n hx hb dL_law_181 rfl (lv_at hl 1 rfl) ?_
        rcases mt_layC (l := l) (D := D) (ad := ad1) (ac := ac) e1 with hM | hM
        · refine lawL B F hW kl_L_27 kv_X10_lay hM (Nat.le_of_ble_eq_true rfl) (Nat.le_of_ble_eq_true rfl) hcs hl.1 rfl (Nat.le_of_ble_eq_true rfl) dL_law_182 (fun H locs hW => ?_)
          refine lv_aload_n hx hb dL_law_185 rfl (lv_at hl 2 rfl) ?_
          refine lawM (As := []) B F hW kl_L_30 kv_X11_lay rfl (mt_X11_lay e2) rfl (Nat.le_of_ble_eq_true rfl) (Nat.le_of_ble_eq_true rfl) hcs hl.1 rfl (Nat.le_of_ble_eq_true rfl) dL_law_186 (fun H locs hW => ?_)
          refine lv_icmp_eq hx hb dL_law_189 (tgt := 755) (by decide) (fun _ => ?_) (fun hne => absurd rfl hne)
          exact next hc' hm' ad1 ad2 H locs hR F hW hl
        · refine lawL B F hW kl_L_27 kv_X10_lay hM (Nat.le_of_ble_eq_true rfl) (Nat.le_of_ble_eq_true rfl) hcs hl.1 rfl (Nat.le_of_ble_eq_true rfl) dL_law_182 (fun H locs hW => ?_)
          have F := AF_sg F
          refine lv_aload_n hx hb dL_law_185 rfl (lv_at hl 2 rfl) ?_
          refine lawM (As := []) B F hW kl_L_30 kv_X11_lay rfl (mt_X11_lay e2) rfl (Nat.le_of_ble_eq_true rfl) (Nat.le_of_ble_eq_true rfl) hcs hl.1 rfl (Nat.le_of_ble_eq_true rfl) dL_law_186 (fun H locs hW => ?_)
          refine lv_icmp_eq hx hb dL_law_189 (tgt := 755) (by decide) (fun _ => ?_) (fun hne => absurd rfl hne)
          exact next hc' hm' (fun k => ad1 (sg k)) ad2 H locs hR F hW hl
      by_cases hc4 : sw = 4
      · refine lv_tableIn hx hb dL_law_32 (by rw [hc4]; decide) (by rw [hc4]; decide) (off := 162) (by rw [hc4]; rfl) (tgt := 194) (by decide) ?_
        obtain ⟨v, e1, e2, hR⟩ := s_4 hc hm (xs (nI (5 * k) + 1).toNatClampNeg) (xs (nI (5 * k) + 2).toNatClampNeg) hR
        refine lv_aload_n hx hb dL_law_194 rfl (lv_at hl 1 rfl) ?_
        refine lv_aload_n hx hb dL_law_195 rfl (lv_at hl 0 rfl) ?_
        refine lv_iload_n hx hb dL_law_196 rfl (lv_at hl 3 rfl) ?_
        refine lv_iconst (v := 1) hx hb dL_law_197 (by decide) ?_
        refine lv_iadd hx hb dL_law_198 ?_
        refine va_sld hx hb hX hbl hbA hW.2.2 (law_in (j := 1) hL h5 (by omega)) dL_law_199 ?_
        refine lv_aload_n hx hb dL_law_200 rfl (lv_at hl 0 rfl) ?_
        refine lv_iload_n hx hb dL_law_201 rfl (lv_at hl 3 rfl) ?_
        refine lv_iconst (v := 2) hx hb dL_law_202 (by decide) ?_
        refine lv_iadd hx hb dL_law_203 ?_
        refine va_sld hx hb hX hbl hbA hW.2.2 (law_in (j := 2) hL h5 (by omega)) dL_law_204 ?_
        refine lawC (As := [.int (xs (nI (5 * k) + 1).toNatClampNeg), .int (xs (nI (5 * k) + 2).toNatClampNeg)]) B F hW kl_L_31 kv_X10_sat rfl (mt_X10_sat e1) rfl (Nat.le_of_ble_eq_true rfl) (Nat.le_of_ble_eq_true rfl) hcs hl.1 rfl (Nat.le_of_ble_eq_true rfl) dL_law_205 (fun H locs hW => ?_)
        refine lv_aload_n hx hb dL_law_208 rfl (lv_at hl 2 rfl) ?_
        refine lv_aload_n hx hb dL_law_209 rfl (lv_at hl 0 rfl) ?_
        refine lv_iload_n hx hb dL_law_210 rfl (lv_at hl 3 rfl) ?_
        refine lv_iconst (v := 1) hx hb dL_law_211 (by decide) ?_
        refine lv_iadd hx hb dL_law_212 ?_
        refine va_sld hx hb hX hbl hbA hW.2.2 (law_in (j := 1) hL h5 (by omega)) dL_law_213 ?_
        refine lv_aload_n hx hb dL_law_214 rfl (lv_at hl 0 rfl) ?_
        refine lv_iload_n hx hb dL_law_215 rfl (lv_at hl 3 rfl) ?_
        refine lv_iconst (v := 2) hx hb dL_law_216 (by decide) ?_
        refine lv_iadd hx hb dL_law_217 ?_
        refine va_sld hx hb hX hbl hbA hW.2.2 (law_in (j := 2) hL h5 (by omega)) dL_law_218 ?_
        refine lawM (As := [.int (xs (nI (5 * k) + 1).toNatClampNeg), .int (xs (nI (5 * k) + 2).toNatClampNeg)]) B F hW kl_L_35 kv_X11_sat rfl (mt_X11_sat e2) rfl (Nat.le_of_ble_eq_true rfl) (Nat.le_of_ble_eq_true rfl) hcs hl.1 rfl (Nat.le_of_ble_eq_true rfl) dL_law_219 (fun H locs hW => ?_)
        refine lv_icmp_eq hx hb dL_law_222 (tgt := 755) (by decide) (fun _ => ?_) (fun hne => absurd rfl hne)
        exact next hc hm ad1 ad2 H locs hR F hW hl
      by_cases hc5 : sw = 5
      · refine lv_tableIn hx hb dL_law_32 (by rw [hc5]; decide) (by rw [hc5]; decide) (off := 195) (by rw [hc5]; rfl) (tgt := 227) (by decide) ?_
        obtain ⟨v, e1, e2, hR⟩ := s_5 hc hm (xs (nI (5 * k) + 1).toNatClampNeg) (xs (nI (5 * k) + 2).toNatClampNeg) hR
        refine lv_aload_n hx hb dL_law_227 rfl (lv_at hl 1 rfl) ?_
        refine lv_aload_n hx hb dL_law_228 rfl (lv_at hl 0 rfl) ?_
        refine lv_iload_n hx hb dL_law_229 rfl (lv_at hl 3 rfl) ?_
        refine lv_iconst (v := 1) hx hb dL_law_230 (by decide) ?_
        refine lv_iadd hx hb dL_law_231 ?_
        refine va_sld hx hb hX hbl hbA hW.2.2 (law_in (j := 1) hL h5 (by omega)) dL_law_232 ?_
        refine lv_aload_n hx hb dL_law_233 rfl (lv_at hl 0 rfl) ?_
        refine lv_iload_n hx hb dL_law_234 rfl (lv_at hl 3 rfl) ?_
        refine lv_iconst (v := 2) hx hb dL_law_235 (by decide) ?_
        refine lv_iadd hx hb dL_law_236 ?_
        refine va_sld hx hb hX hbl hbA hW.2.2 (law_in (j := 2) hL h5 (by omega)) dL_law_237 ?_
        refine lawC (As := [.int (xs (nI (5 * k) + 1).toNatClampNeg), .int (xs (nI (5 * k) + 2).toNatClampNeg)]) B F hW kl_L_36 kv_X10_antenna rfl (mt_X10_antenna e1) rfl (Nat.le_of_ble_eq_true rfl) (Nat.le_of_ble_eq_true rfl) hcs hl.1 rfl (Nat.le_of_ble_eq_true rfl) dL_law_238 (fun H locs hW => ?_)
        refine lv_aload_n hx hb dL_law_241 rfl (lv_at hl 2 rfl) ?_
        refine lv_aload_n hx hb dL_law_242 rfl (lv_at hl 0 rfl) ?_
        refine lv_iload_n hx hb dL_law_243 rfl (lv_at hl 3 rfl) ?_
        refine lv_iconst (v := 1) hx hb dL_law_244 (by decide) ?_
        refine lv_iadd hx hb dL_law_245 ?_
        refine va_sld hx hb hX hbl hbA hW.2.2 (law_in (j := 1) hL h5 (by omega)) dL_law_246 ?_
        refine lv_aload_n hx hb dL_law_247 rfl (lv_at hl 0 rfl) ?_
        refine lv_iload_n hx hb dL_law_248 rfl (lv_at hl 3 rfl) ?_
        refine lv_iconst (v := 2) hx hb dL_law_249 (by decide) ?_
        refine lv_iadd hx hb dL_law_250 ?_
        refine va_sld hx hb hX hbl hbA hW.2.2 (law_in (j := 2) hL h5 (by omega)) dL_law_251 ?_
        refine lawM (As := [.int (xs (nI (5 * k) + 1).toNatClampNeg), .int (xs (nI (5 * k) + 2).toNatClampNeg)]) B F hW kl_L_39 kv_X11_antenna rfl (mt_X11_antenna e2) rfl (Nat.le_of_ble_eq_true rfl) (Nat.le_of_ble_eq_true rfl) hcs hl.1 rfl (Nat.le_of_ble_eq_true rfl) dL_law_252 (fun H locs hW => ?_)
        refine lv_icmp_eq hx hb dL_law_255 (tgt := 755) (by decide) (fun _ => ?_) (fun hne => absurd rfl hne)
        exact next hc hm ad1 ad2 H locs hR F hW hl
      by_cases hc6 : sw = 6
      · refine lv_tableIn hx hb dL_law_32 (by rw [hc6]; decide) (by rw [hc6]; decide) (off := 228) (by rw [hc6]; rfl) (tgt := 260) (by decide) ?_
        obtain ⟨v, e1, e2, hR⟩ := s_6 hc hm (xs (nI (5 * k) + 1).toNatClampNeg) (xs (nI (5 * k) + 2).toNatClampNeg) (xs (nI (5 * k) + 3).toNatClampNeg) hR
        refine lv_aload_n hx hb dL_law_260 rfl (lv_at hl 1 rfl) ?_
        refine lv_aload_n hx hb dL_law_261 rfl (lv_at hl 0 rfl) ?_
        refine lv_iload_n hx hb dL_law_262 rfl (lv_at hl 3 rfl) ?_
        refine lv_iconst (v := 1) hx hb dL_law_263 (by decide) ?_
        refine lv_iadd hx hb dL_law_264 ?_
        refine va_sld hx hb hX hbl hbA hW.2.2 (law_in (j := 1) hL h5 (by omega)) dL_law_265 ?_
        refine lv_aload_n hx hb dL_law_266 rfl (lv_at hl 0 rfl) ?_
        refine lv_iload_n hx hb dL_law_267 rfl (lv_at hl 3 rfl) ?_
        refine lv_iconst (v := 2) hx hb dL_law_268 (by decide) ?_
        refine lv_iadd hx hb dL_law_269 ?_
        refine va_sld hx hb hX hbl hbA hW.2.2 (law_in (j := 2) hL h5 (by omega)) dL_law_270 ?_
        refine lv_aload_n hx hb dL_law_271 rfl (lv_at hl 0 rfl) ?_
        refine lv_iload_n hx hb dL_law_272 rfl (lv_at hl 3 rfl) ?_
        refine lv_iconst (v := 3) hx hb dL_law_273 (by decide) ?_
        refine lv_iadd hx hb dL_law_274 ?_
        refine va_sld hx hb hX hbl hbA hW.2.2 (law_in (j := 3) hL h5 (by omega)) dL_law_275 ?_
        refine lawC (As := [.int (xs (nI (5 * k) + 1).toNatClampNeg), .int (xs (nI (5 * k) + 2).toNatClampNeg), .int (xs (nI (5 * k) + 3).toNatClampNeg)]) B F hW kl_L_40 kv_X10_seen rfl (mt_X10_seen e1) rfl (Nat.le_of_ble_eq_true rfl) (Nat.le_of_ble_eq_true rfl) hcs hl.1 rfl (Nat.le_of_ble_eq_true rfl) dL_law_276 (fun H locs hW => ?_)
        refine lv_aload_n hx hb dL_law_279 rfl (lv_at hl 2 rfl) ?_
        refine lv_aload_n hx hb dL_law_280 rfl (lv_at hl 0 rfl) ?_
        refine lv_iload_n hx hb dL_law_281 rfl (lv_at hl 3 rfl) ?_
        refine lv_iconst (v := 1) hx hb dL_law_282 (by decide) ?_
        refine lv_iadd hx hb dL_law_283 ?_
        refine va_sld hx hb hX hbl hbA hW.2.2 (law_in (j := 1) hL h5 (by omega)) dL_law_284 ?_
        refine lv_aload_n hx hb dL_law_285 rfl (lv_at hl 0 rfl) ?_
        refine lv_iload_n hx hb dL_law_286 rfl (lv_at hl 3 rfl) ?_
        refine lv_iconst (v := 2) hx hb dL_law_287 (by decide) ?_
        refine lv_iadd hx hb dL_law_288 ?_
        refine va_sld hx hb hX hbl hbA hW.2.2 (law_in (j := 2) hL h5 (by omega)) dL_law_289 ?_
        refine lv_aload_n hx hb dL_law_290 rfl (lv_at hl 0 rfl) ?_
        refine lv_iload_n hx hb dL_law_291 rfl (lv_at hl 3 rfl) ?_
        refine lv_iconst (v := 3) hx hb dL_law_292 (by decide) ?_
        refine lv_iadd hx hb dL_law_293 ?_
        refine va_sld hx hb hX hbl hbA hW.2.2 (law_in (j := 3) hL h5 (by omega)) dL_law_294 ?_
        refine lawM (As := [.int (xs (nI (5 * k) + 1).toNatClampNeg), .int (xs (nI (5 * k) + 2).toNatClampNeg), .int (xs (nI (5 * k) + 3).toNatClampNeg)]) B F hW kl_L_44 kv_X11_seen rfl (mt_X11_seen e2) rfl (Nat.le_of_ble_eq_true rfl) (Nat.le_of_ble_eq_true rfl) hcs hl.1 rfl (Nat.le_of_ble_eq_true rfl) dL_law_295 (fun H locs hW => ?_)
        refine lv_icmp_eq hx hb dL_law_298 (tgt := 755) (by decide) (fun _ => ?_) (fun hne => absurd rfl hne)
        exact next hc hm ad1 ad2 H locs hR F hW hl
      by_cases hc7 : sw = 7
      · refine lv_tableIn hx hb dL_law_32 (by rw [hc7]; decide) (by rw [hc7]; decide) (off := 271) (by rw [hc7]; rfl) (tgt := 303) (by decide) ?_
        obtain ⟨v, e1, e2, hR⟩ := s_7 hc hm (xs (nI (5 * k) + 1).toNatClampNeg) (xs (nI (5 * k) + 2).toNatClampNeg) hR
        refine lv_aload_n hx hb dL_law_303 rfl (lv_at hl 1 rfl) ?_
        refine lv_aload_n hx hb dL_law_304 rfl (lv_at hl 0 rfl) ?_
        refine lv_iload_n hx hb dL_law_305 rfl (lv_at hl 3 rfl) ?_
        refine lv_iconst (v := 1) hx hb dL_law_306 (by decide) ?_
        refine lv_iadd hx hb dL_law_307 ?_
        refine va_sld hx hb hX hbl hbA hW.2.2 (law_in (j := 1) hL h5 (by omega)) dL_law_308 ?_
        refine lv_aload_n hx hb dL_law_309 rfl (lv_at hl 0 rfl) ?_
        refine lv_iload_n hx hb dL_law_310 rfl (lv_at hl 3 rfl) ?_
        refine lv_iconst (v := 2) hx hb dL_law_311 (by decide) ?_
        refine lv_iadd hx hb dL_law_312 ?_
        refine va_sld hx hb hX hbl hbA hW.2.2 (law_in (j := 2) hL h5 (by omega)) dL_law_313 ?_
        refine lawC (As := [.int (xs (nI (5 * k) + 1).toNatClampNeg), .int (xs (nI (5 * k) + 2).toNatClampNeg)]) B F hW kl_L_45 kv_X10_pass rfl (mt_X10_pass e1) rfl (Nat.le_of_ble_eq_true rfl) (Nat.le_of_ble_eq_true rfl) hcs hl.1 rfl (Nat.le_of_ble_eq_true rfl) dL_law_314 (fun H locs hW => ?_)
        refine lv_aload_n hx hb dL_law_317 rfl (lv_at hl 2 rfl) ?_
        refine lv_aload_n hx hb dL_law_318 rfl (lv_at hl 0 rfl) ?_
        refine lv_iload_n hx hb dL_law_319 rfl (lv_at hl 3 rfl) ?_
        refine lv_iconst (v := 1) hx hb dL_law_320 (by decide) ?_
        refine lv_iadd hx hb dL_law_321 ?_
        refine va_sld hx hb hX hbl hbA hW.2.2 (law_in (j := 1) hL h5 (by omega)) dL_law_322 ?_
        refine lv_aload_n hx hb dL_law_323 rfl (lv_at hl 0 rfl) ?_
        refine lv_iload_n hx hb dL_law_324 rfl (lv_at hl 3 rfl) ?_
        refine lv_iconst (v := 2) hx hb dL_law_325 (by decide) ?_
        refine lv_iadd hx hb dL_law_326 ?_
        refine va_sld hx hb hX hbl hbA hW.2.2 (law_in (j := 2) hL h5 (by omega)) dL_law_327 ?_
        refine lawM (As := [.int (xs (nI (5 * k) + 1).toNatClampNeg), .int (xs (nI (5 * k) + 2).toNatClampNeg)]) B F hW kl_L_48 kv_X11_pass rfl (mt_X11_pass e2) rfl (Nat.le_of_ble_eq_true rfl) (Nat.le_of_ble_eq_true rfl) hcs hl.1 rfl (Nat.le_of_ble_eq_true rfl) dL_law_328 (fun H locs hW => ?_)
        refine lv_icmp_eq hx hb dL_law_331 (tgt := 755) (by decide) (fun _ => ?_) (fun hne => absurd rfl hne)
        exact next hc hm ad1 ad2 H locs hR F hW hl
      by_cases hc8 : sw = 8
      · refine lv_tableIn hx hb dL_law_32 (by rw [hc8]; decide) (by rw [hc8]; decide) (off := 304) (by rw [hc8]; rfl) (tgt := 336) (by decide) ?_
        obtain ⟨v, e1, e2, hR⟩ := s_8 hc hm (xs (nI (5 * k) + 1).toNatClampNeg) (xs (nI (5 * k) + 2).toNatClampNeg) hR
        refine lv_aload_n hx hb dL_law_336 rfl (lv_at hl 1 rfl) ?_
        refine lv_aload_n hx hb dL_law_337 rfl (lv_at hl 0 rfl) ?_
        refine lv_iload_n hx hb dL_law_338 rfl (lv_at hl 3 rfl) ?_
        refine lv_iconst (v := 1) hx hb dL_law_339 (by decide) ?_
        refine lv_iadd hx hb dL_law_340 ?_
        refine va_sld hx hb hX hbl hbA hW.2.2 (law_in (j := 1) hL h5 (by omega)) dL_law_341 ?_
        refine lv_aload_n hx hb dL_law_342 rfl (lv_at hl 0 rfl) ?_
        refine lv_iload_n hx hb dL_law_343 rfl (lv_at hl 3 rfl) ?_
        refine lv_iconst (v := 2) hx hb dL_law_344 (by decide) ?_
        refine lv_iadd hx hb dL_law_345 ?_
        refine va_sld hx hb hX hbl hbA hW.2.2 (law_in (j := 2) hL h5 (by omega)) dL_law_346 ?_
        refine lawC (As := [.int (xs (nI (5 * k) + 1).toNatClampNeg), .int (xs (nI (5 * k) + 2).toNatClampNeg)]) B F hW kl_L_49 kv_X10_rate rfl (mt_X10_rate e1) rfl (Nat.le_of_ble_eq_true rfl) (Nat.le_of_ble_eq_true rfl) hcs hl.1 rfl (Nat.le_of_ble_eq_true rfl) dL_law_347 (fun H locs hW => ?_)
        refine lv_aload_n hx hb dL_law_350 rfl (lv_at hl 2 rfl) ?_
        refine lv_aload_n hx hb dL_law_351 rfl (lv_at hl 0 rfl) ?_
        refine lv_iload_n hx hb dL_law_352 rfl (lv_at hl 3 rfl) ?_
        refine lv_iconst (v := 1) hx hb dL_law_353 (by decide) ?_
        refine lv_iadd hx hb dL_law_354 ?_
        refine va_sld hx hb hX hbl hbA hW.2.2 (law_in (j := 1) hL h5 (by omega)) dL_law_355 ?_
        refine lv_aload_n hx hb dL_law_356 rfl (lv_at hl 0 rfl) ?_
        refine lv_iload_n hx hb dL_law_357 rfl (lv_at hl 3 rfl) ?_
        refine lv_iconst (v := 2) hx hb dL_law_358 (by decide) ?_
        refine lv_iadd hx hb dL_law_359 ?_
        refine va_sld hx hb hX hbl hbA hW.2.2 (law_in (j := 2) hL h5 (by omega)) dL_law_360 ?_
        refine lawM (As := [.int (xs (nI (5 * k) + 1).toNatClampNeg), .int (xs (nI (5 * k) + 2).toNatClampNeg)]) B F hW kl_L_52 kv_X11_rate rfl (mt_X11_rate e2) rfl (Nat.le_of_ble_eq_true rfl) (Nat.le_of_ble_eq_true rfl) hcs hl.1 rfl (Nat.le_of_ble_eq_true rfl) dL_law_361 (fun H locs hW => ?_)
        refine lv_icmp_eq hx hb dL_law_364 (tgt := 755) (by decide) (fun _ => ?_) (fun hne => absurd rfl hne)
        exact next hc hm ad1 ad2 H locs hR F hW hl
      by_cases hc9 : sw = 9
      · refine lv_tableIn hx hb dL_law_32 (by rw [hc9]; decide) (by rw [hc9]; decide) (off := 337) (by rw [hc9]; rfl) (tgt := 369) (by decide) ?_
        obtain ⟨v, hc', hm', e1, e2, hR⟩ := s_9 hc hm (xs (nI (5 * k) + 1).toNatClampNeg) (xs (nI (5 * k) + 2).toNatClampNeg) hR
        refine lv_aload_n hx hb dL_law_369 rfl (lv_at hl 1 rfl) ?_
        refine lv_aload_n hx hb dL_law_370 rfl (lv_at hl 0 rfl) ?_
        refine lv_iload_n hx hb dL_law_371 rfl (lv_at hl 3 rfl) ?_
        refine lv_iconst (v := 1) hx hb dL_law_372 (by decide) ?_
        refine lv_iadd hx hb dL_law_373 ?_
        refine va_sld hx hb hX hbl hbA hW.2.2 (law_in (j := 1) hL h5 (by omega)) dL_law_374 ?_
        refine lv_aload_n hx hb dL_law_375 rfl (lv_at hl 0 rfl) ?_
        refine lv_iload_n hx hb dL_law_376 rfl (lv_at hl 3 rfl) ?_
        refine lv_iconst (v := 2) hx hb dL_law_377 (by decide) ?_
        refine lv_iadd hx hb dL_law_378 ?_
        refine va_sld hx hb hX hbl hbA hW.2.2 (law_in (j := 2) hL h5 (by omega)) dL_law_379 ?_
        refine lawC (As := [.int (xs (nI (5 * k) + 1).toNatClampNeg), .int (xs (nI (5 * k) + 2).toNatClampNeg)]) B F hW kl_L_53 kv_X10_give rfl (mt_X10_give e1) rfl (Nat.le_of_ble_eq_true rfl) (Nat.le_of_ble_eq_true rfl) hcs hl.1 rfl (Nat.le_of_ble_eq_true rfl) dL_law_380 (fun H locs hW => ?_)
        refine lv_aload_n hx hb dL_law_383 rfl (lv_at hl 2 rfl) ?_
        refine lv_aload_n hx hb dL_law_384 rfl (lv_at hl 0 rfl) ?_
        refine lv_iload_n hx hb dL_law_385 rfl (lv_at hl 3 rfl) ?_
        refine lv_iconst (v := 1) hx hb dL_law_386 (by decide) ?_
        refine lv_iadd hx hb dL_law_387 ?_
        refine va_sld hx hb hX hbl hbA hW.2.2 (law_in (j := 1) hL h5 (by omega)) dL_law_388 ?_
        refine lv_aload_n hx hb dL_law_389 rfl (lv_at hl 0 rfl) ?_
        refine lv_iload_n hx hb dL_law_390 rfl (lv_at hl 3 rfl) ?_
        refine lv_iconst (v := 2) hx hb dL_law_391 (by decide) ?_
        refine lv_iadd hx hb dL_law_392 ?_
        refine va_sld hx hb hX hbl hbA hW.2.2 (law_in (j := 2) hL h5 (by omega)) dL_law_393 ?_
        refine lawM (As := [.int (xs (nI (5 * k) + 1).toNatClampNeg), .int (xs (nI (5 * k) + 2).toNatClampNeg)]) B F hW kl_L_56 kv_X11_give rfl (mt_X11_give e2) rfl (Nat.le_of_ble_eq_true rfl) (Nat.le_of_ble_eq_true rfl) hcs hl.1 rfl (Nat.le_of_ble_eq_true rfl) dL_law_394 (fun H locs hW => ?_)
        refine lv_icmp_eq hx hb dL_law_397 (tgt := 755) (by decide) (fun _ => ?_) (fun hne => absurd rfl hne)
        exact next hc' hm' ad1 ad2 H locs hR F hW hl
      by_cases hc10 : sw = 10
      · refine lv_tableIn hx hb dL_law_32 (by rw [hc10]; decide) (by rw [hc10]; decide) (off := 370) (by rw [hc10]; rfl) (tgt := 402) (by decide) ?_
        obtain ⟨v, e1, e2, hR⟩ := s_10 hc hm (xs (nI (5 * k) + 1).toNatClampNeg) (xs (nI (5 * k) + 2).toNatClampNeg) hR
        refine lv_aload_n hx hb dL_law_402 rfl (lv_at hl 1 rfl) ?_
        refine lv_aload_n hx hb dL_law_403 rfl (lv_at hl 0 rfl) ?_
        refine lv_iload_n hx hb dL_law_404 rfl (lv_at hl 3 rfl) ?_
        refine lv_iconst (v := 1) hx hb dL_law_405 (by decide) ?_
        refine lv_iadd hx hb dL_law_406 ?_
        refine va_sld hx hb hX hbl hbA hW.2.2 (law_in (j := 1) hL h5 (by omega)) dL_law_407 ?_
        refine lv_aload_n hx hb dL_law_408 rfl (lv_at hl 0 rfl) ?_
        refine lv_iload_n hx hb dL_law_409 rfl (lv_at hl 3 rfl) ?_
        refine lv_iconst (v := 2) hx hb dL_law_410 (by decide) ?_
        refine lv_iadd hx hb dL_law_411 ?_
        refine va_sld hx hb hX hbl hbA hW.2.2 (law_in (j := 2) hL h5 (by omega)) dL_law_412 ?_
        refine lawC (As := [.int (xs (nI (5 * k) + 1).toNatClampNeg), .int (xs (nI (5 * k) + 2).toNatClampNeg)]) B F hW kl_L_57 kv_X10_why rfl (mt_X10_why e1) rfl (Nat.le_of_ble_eq_true rfl) (Nat.le_of_ble_eq_true rfl) hcs hl.1 rfl (Nat.le_of_ble_eq_true rfl) dL_law_413 (fun H locs hW => ?_)
        refine lv_aload_n hx hb dL_law_416 rfl (lv_at hl 2 rfl) ?_
        refine lv_aload_n hx hb dL_law_417 rfl (lv_at hl 0 rfl) ?_
        refine lv_iload_n hx hb dL_law_418 rfl (lv_at hl 3 rfl) ?_
        refine lv_iconst (v := 1) hx hb dL_law_419 (by decide) ?_
        refine lv_iadd hx hb dL_law_420 ?_
        refine va_sld hx hb hX hbl hbA hW.2.2 (law_in (j := 1) hL h5 (by omega)) dL_law_421 ?_
        refine lv_aload_n hx hb dL_law_422 rfl (lv_at hl 0 rfl) ?_
        refine lv_iload_n hx hb dL_law_423 rfl (lv_at hl 3 rfl) ?_
        refine lv_iconst (v := 2) hx hb dL_law_424 (by decide) ?_
        refine lv_iadd hx hb dL_law_425 ?_
        refine va_sld hx hb hX hbl hbA hW.2.2 (law_in (j := 2) hL h5 (by omega)) dL_law_426 ?_
        refine lawM (As := [.int (xs (nI (5 * k) + 1).toNatClampNeg), .int (xs (nI (5 * k) + 2).toNatClampNeg)]) B F hW kl_L_60 kv_X11_why rfl (mt_X11_why e2) rfl (Nat.le_of_ble_eq_true rfl) (Nat.le_of_ble_eq_true rfl) hcs hl.1 rfl (Nat.le_of_ble_eq_true rfl) dL_law_427 (fun H locs hW => ?_)
        refine lv_icmp_eq hx hb dL_law_430 (tgt := 755) (by decide) (fun _ => ?_) (fun hne => absurd rfl hne)
        exact next hc hm ad1 ad2 H locs hR F hW hl
      by_cases hc11 : sw = 11
      · refine lv_tableIn hx hb dL_law_32 (by rw [hc11]; decide) (by rw [hc11]; decide) (off := 403) (by rw [hc11]; rfl) (tgt := 435) (by decide) ?_
        obtain ⟨v, hc', hm', e1, e2, hR⟩ := s_11 hc hm (xs (nI (5 * k) + 1).toNatClampNeg) hR
        refine lv_aload_n hx hb dL_law_435 rfl (lv_at hl 1 rfl) ?_
        refine lv_aload_n hx hb dL_law_436 rfl (lv_at hl 0 rfl) ?_
        refine lv_iload_n hx hb dL_law_437 rfl (lv_at hl 3 rfl) ?_
        refine lv_iconst (v := 1) hx hb dL_law_438 (by decide) ?_
        refine lv_iadd hx hb dL_law_439 ?_
        refine va_sld hx hb hX hbl hbA hW.2.2 (law_in (j := 1) hL h5 (by omega)) dL_law_440 ?_
        refine lawC (As := [.int (xs (nI (5 * k) + 1).toNatClampNeg)]) B F hW kl_L_61 kv_X10_take rfl (mt_X10_take e1) rfl (Nat.le_of_ble_eq_true rfl) (Nat.le_of_ble_eq_true rfl) hcs hl.1 rfl (Nat.le_of_ble_eq_true rfl) dL_law_441 (fun H locs hW => ?_)
        refine lv_aload_n hx hb dL_law_444 rfl (lv_at hl 2 rfl) ?_
        refine lv_aload_n hx hb dL_law_445 rfl (lv_at hl 0 rfl) ?_
        refine lv_iload_n hx hb dL_law_446 rfl (lv_at hl 3 rfl) ?_
        refine lv_iconst (v := 1) hx hb dL_law_447 (by decide) ?_
        refine lv_iadd hx hb dL_law_448 ?_
        refine va_sld hx hb hX hbl hbA hW.2.2 (law_in (j := 1) hL h5 (by omega)) dL_law_449 ?_
        refine lawM (As := [.int (xs (nI (5 * k) + 1).toNatClampNeg)]) B F hW kl_L_64 kv_X11_take rfl (mt_X11_take e2) rfl (Nat.le_of_ble_eq_true rfl) (Nat.le_of_ble_eq_true rfl) hcs hl.1 rfl (Nat.le_of_ble_eq_true rfl) dL_law_450 (fun H locs hW => ?_)
        refine lv_icmp_eq hx hb dL_law_453 (tgt := 755) (by decide) (fun _ => ?_) (fun hne => absurd rfl hne)
        exact next hc' hm' ad1 ad2 H locs hR F hW hl
      by_cases hc12 : sw = 12
      · refine lv_tableIn hx hb dL_law_32 (by rw [hc12]; decide) (by rw [hc12]; decide) (off := 426) (by rw [hc12]; rfl) (tgt := 458) (by decide) ?_
        obtain ⟨v, hc', hm', e1, e2, hR⟩ := s_12 hc hm (xs (nI (5 * k) + 1).toNatClampNeg) (xs (nI (5 * k) + 2).toNatClampNeg) (xs (nI (5 * k) + 3).toNatClampNeg) hR
        refine lv_aload_n hx hb dL_law_458 rfl (lv_at hl 1 rfl) ?_
        refine lv_aload_n hx hb dL_law_459 rfl (lv_at hl 0 rfl) ?_
        refine lv_iload_n hx hb dL_law_460 rfl (lv_at hl 3 rfl) ?_
        refine lv_iconst (v := 1) hx hb dL_law_461 (by decide) ?_
        refine lv_iadd hx hb dL_law_462 ?_
        refine va_sld hx hb hX hbl hbA hW.2.2 (law_in (j := 1) hL h5 (by omega)) dL_law_463 ?_
        refine lv_aload_n hx hb dL_law_464 rfl (lv_at hl 0 rfl) ?_
        refine lv_iload_n hx hb dL_law_465 rfl (lv_at hl 3 rfl) ?_
        refine lv_iconst (v := 2) hx hb dL_law_466 (by decide) ?_
        refine lv_iadd hx hb dL_law_467 ?_
        refine va_sld hx hb hX hbl hbA hW.2.2 (law_in (j := 2) hL h5 (by omega)) dL_law_468 ?_
        refine lv_aload_n hx hb dL_law_469 rfl (lv_at hl 0 rfl) ?_
        refine lv_iload_n hx hb dL_law_470 rfl (lv_at hl 3 rfl) ?_
        refine lv_iconst (v := 3) hx hb dL_law_471 (by decide) ?_
        refine lv_iadd hx hb dL_law_472 ?_
        refine va_sld hx hb hX hbl hbA hW.2.2 (law_in (j := 3) hL h5 (by omega)) dL_law_473 ?_
        refine lawC (As := [.int (xs (nI (5 * k) + 1).toNatClampNeg), .int (xs (nI (5 * k) + 2).toNatClampNeg), .int (xs (nI (5 * k) + 3).toNatClampNeg)]) B F hW kl_L_65 kv_X10_out rfl (mt_X10_out e1) rfl (Nat.le_of_ble_eq_true rfl) (Nat.le_of_ble_eq_true rfl) hcs hl.1 rfl (Nat.le_of_ble_eq_true rfl) dL_law_474 (fun H locs hW => ?_)
        refine lv_aload_n hx hb dL_law_477 rfl (lv_at hl 2 rfl) ?_
        refine lv_aload_n hx hb dL_law_478 rfl (lv_at hl 0 rfl) ?_
        refine lv_iload_n hx hb dL_law_479 rfl (lv_at hl 3 rfl) ?_
        refine lv_iconst (v := 1) hx hb dL_law_480 (by decide) ?_
        refine lv_iadd hx hb dL_law_481 ?_
        refine va_sld hx hb hX hbl hbA hW.2.2 (law_in (j := 1) hL h5 (by omega)) dL_law_482 ?_
        refine lv_aload_n hx hb dL_law_483 rfl (lv_at hl 0 rfl) ?_
        refine lv_iload_n hx hb dL_law_484 rfl (lv_at hl 3 rfl) ?_
        refine lv_iconst (v := 2) hx hb dL_law_485 (by decide) ?_
        refine lv_iadd hx hb dL_law_486 ?_
        refine va_sld hx hb hX hbl hbA hW.2.2 (law_in (j := 2) hL h5 (by omega)) dL_law_487 ?_
        refine lv_aload_n hx hb dL_law_488 rfl (lv_at hl 0 rfl) ?_
        refine lv_iload_n hx hb dL_law_489 rfl (lv_at hl 3 rfl) ?_
        refine lv_iconst (v := 3) hx hb dL_law_490 (by decide) ?_
        refine lv_iadd hx hb dL_law_491 ?_
        refine va_sld hx hb hX hbl hbA hW.2.2 (law_in (j := 3) hL h5 (by omega)) dL_law_492 ?_
        refine lawM (As := [.int (xs (nI (5 * k) + 1).toNatClampNeg), .int (xs (nI (5 * k) + 2).toNatClampNeg), .int (xs (nI (5 * k) + 3).toNatClampNeg)]) B F hW kl_L_68 kv_X11_out rfl (mt_X11_out e2) rfl (Nat.le_of_ble_eq_true rfl) (Nat.le_of_ble_eq_true rfl) hcs hl.1 rfl (Nat.le_of_ble_eq_true rfl) dL_law_493 (fun H locs hW => ?_)
        refine lv_icmp_eq hx hb dL_law_496 (tgt := 755) (by decide) (fun _ => ?_) (fun hne => absurd rfl hne)
        exact next hc' hm' ad1 ad2 H locs hR F hW hl
      by_cases hc13 : sw = 13
      · refine lv_tableIn hx hb dL_law_32 (by rw [hc13]; decide) (by rw [hc13]; decide) (off := 469) (by rw [hc13]; rfl) (tgt := 501) (by decide) ?_
        obtain ⟨v, hc', hm', e1, e2, hR⟩ := s_13 hc hm hR
        refine lv_aload_n hx hb dL_law_501 rfl (lv_at hl 1 rfl) ?_
        refine lawC (As := []) B F hW kl_L_69 kv_X10_undo rfl (mt_X10_undo e1) rfl (Nat.le_of_ble_eq_true rfl) (Nat.le_of_ble_eq_true rfl) hcs hl.1 rfl (Nat.le_of_ble_eq_true rfl) dL_law_502 (fun H locs hW => ?_)
        refine lv_aload_n hx hb dL_law_505 rfl (lv_at hl 2 rfl) ?_
        refine lawM (As := []) B F hW kl_L_72 kv_X11_undo rfl (mt_X11_undo e2) rfl (Nat.le_of_ble_eq_true rfl) (Nat.le_of_ble_eq_true rfl) hcs hl.1 rfl (Nat.le_of_ble_eq_true rfl) dL_law_506 (fun H locs hW => ?_)
        refine lv_icmp_eq hx hb dL_law_509 (tgt := 755) (by decide) (fun _ => ?_) (fun hne => absurd rfl hne)
        exact next hc' hm' ad1 ad2 H locs hR F hW hl
      by_cases hc14 : sw = 14
      · refine lv_tableIn hx hb dL_law_32 (by rw [hc14]; decide) (by rw [hc14]; decide) (off := 482) (by rw [hc14]; rfl) (tgt := 514) (by decide) ?_
        obtain ⟨v, hc', hm', e1, e2, hR⟩ := s_14 hc hm (xs (nI (5 * k) + 1).toNatClampNeg) (xs (nI (5 * k) + 2).toNatClampNeg) hR
        refine lv_aload_n hx hb dL_law_514 rfl (lv_at hl 1 rfl) ?_
        refine lv_aload_n hx hb dL_law_515 rfl (lv_at hl 0 rfl) ?_
        refine lv_iload_n hx hb dL_law_516 rfl (lv_at hl 3 rfl) ?_
        refine lv_iconst (v := 1) hx hb dL_law_517 (by decide) ?_
        refine lv_iadd hx hb dL_law_518 ?_
        refine va_sld hx hb hX hbl hbA hW.2.2 (law_in (j := 1) hL h5 (by omega)) dL_law_519 ?_
        refine lv_aload_n hx hb dL_law_520 rfl (lv_at hl 0 rfl) ?_
        refine lv_iload_n hx hb dL_law_521 rfl (lv_at hl 3 rfl) ?_
        refine lv_iconst (v := 2) hx hb dL_law_522 (by decide) ?_
        refine lv_iadd hx hb dL_law_523 ?_
        refine va_sld hx hb hX hbl hbA hW.2.2 (law_in (j := 2) hL h5 (by omega)) dL_law_524 ?_
        refine lawC (As := [.int (xs (nI (5 * k) + 1).toNatClampNeg), .int (xs (nI (5 * k) + 2).toNatClampNeg)]) B F hW kl_L_73 kv_X10_best rfl (mt_X10_best e1) rfl (Nat.le_of_ble_eq_true rfl) (Nat.le_of_ble_eq_true rfl) hcs hl.1 rfl (Nat.le_of_ble_eq_true rfl) dL_law_525 (fun H locs hW => ?_)
        refine lv_aload_n hx hb dL_law_528 rfl (lv_at hl 2 rfl) ?_
        refine lv_aload_n hx hb dL_law_529 rfl (lv_at hl 0 rfl) ?_
        refine lv_iload_n hx hb dL_law_530 rfl (lv_at hl 3 rfl) ?_
        refine lv_iconst (v := 1) hx hb dL_law_531 (by decide) ?_
        refine lv_iadd hx hb dL_law_532 ?_
        refine va_sld hx hb hX hbl hbA hW.2.2 (law_in (j := 1) hL h5 (by omega)) dL_law_533 ?_
        refine lv_aload_n hx hb dL_law_534 rfl (lv_at hl 0 rfl) ?_
        refine lv_iload_n hx hb dL_law_535 rfl (lv_at hl 3 rfl) ?_
        refine lv_iconst (v := 2) hx hb dL_law_536 (by decide) ?_
        refine lv_iadd hx hb dL_law_537 ?_
        refine va_sld hx hb hX hbl hbA hW.2.2 (law_in (j := 2) hL h5 (by omega)) dL_law_538 ?_
        refine lawM (As := [.int (xs (nI (5 * k) + 1).toNatClampNeg), .int (xs (nI (5 * k) + 2).toNatClampNeg)]) B F hW kl_L_76 kv_X11_best rfl (mt_X11_best e2) rfl (Nat.le_of_ble_eq_true rfl) (Nat.le_of_ble_eq_true rfl) hcs hl.1 rfl (Nat.le_of_ble_eq_true rfl) dL_law_539 (fun H locs hW => ?_)
        refine lv_icmp_eq hx hb dL_law_542 (tgt := 755) (by decide) (fun _ => ?_) (fun hne => absurd rfl hne)
        exact next hc' hm' ad1 ad2 H locs hR F hW hl
      by_cases hc15 : sw = 15
      · refine lv_tableIn hx hb dL_law_32 (by rw [hc15]; decide) (by rw [hc15]; decide) (off := 515) (by rw [hc15]; rfl) (tgt := 547) (by decide) ?_
        obtain ⟨v, hc', hm', e1, e2, hR⟩ := s_15 hc hm (xs (nI (5 * k) + 1).toNatClampNeg) (xs (nI (5 * k) + 2).toNatClampNeg) (xs (nI (5 * k) + 3).toNatClampNeg) (xs (nI (5 * k) + 4).toNatClampNeg) hR
        refine lv_aload_n hx hb dL_law_547 rfl (lv_at hl 1 rfl) ?_
        refine lv_aload_n hx hb dL_law_548 rfl (lv_at hl 0 rfl) ?_
        refine lv_iload_n hx hb dL_law_549 rfl (lv_at hl 3 rfl) ?_
        refine lv_iconst (v := 1) hx hb dL_law_550 (by decide) ?_
        refine lv_iadd hx hb dL_law_551 ?_
        refine va_sld hx hb hX hbl hbA hW.2.2 (law_in (j := 1) hL h5 (by omega)) dL_law_552 ?_
        refine lv_aload_n hx hb dL_law_553 rfl (lv_at hl 0 rfl) ?_
        refine lv_iload_n hx hb dL_law_554 rfl (lv_at hl 3 rfl) ?_
        refine lv_iconst (v := 2) hx hb dL_law_555 (by decide) ?_
        refine lv_iadd hx hb dL_law_556 ?_
        refine va_sld hx hb hX hbl hbA hW.2.2 (law_in (j := 2) hL h5 (by omega)) dL_law_557 ?_
        refine lv_aload_n hx hb dL_law_558 rfl (lv_at hl 0 rfl) ?_
        refine lv_iload_n hx hb dL_law_559 rfl (lv_at hl 3 rfl) ?_
        refine lv_iconst (v := 3) hx hb dL_law_560 (by decide) ?_
        refine lv_iadd hx hb dL_law_561 ?_
        refine va_sld hx hb hX hbl hbA hW.2.2 (law_in (j := 3) hL h5 (by omega)) dL_law_562 ?_
        refine lv_aload_n hx hb dL_law_563 rfl (lv_at hl 0 rfl) ?_
        refine lv_iload_n hx hb dL_law_564 rfl (lv_at hl 3 rfl) ?_
        refine lv_iconst (v := 4) hx hb dL_law_565 (by decide) ?_
        refine lv_iadd hx hb dL_law_566 ?_
        refine va_sld hx hb hX hbl hbA hW.2.2 (law_in (j := 4) hL h5 (by omega)) dL_law_567 ?_
        refine lawC (As := [.int (xs (nI (5 * k) + 1).toNatClampNeg), .int (xs (nI (5 * k) + 2).toNatClampNeg), .int (xs (nI (5 * k) + 3).toNatClampNeg), .int (xs (nI (5 * k) + 4).toNatClampNeg)]) B F hW kl_L_77 kv_X10_plan rfl (mt_X10_plan e1) rfl (Nat.le_of_ble_eq_true rfl) (Nat.le_of_ble_eq_true rfl) hcs hl.1 rfl (Nat.le_of_ble_eq_true rfl) dL_law_568 (fun H locs hW => ?_)
        refine lv_aload_n hx hb dL_law_571 rfl (lv_at hl 2 rfl) ?_
        refine lv_aload_n hx hb dL_law_572 rfl (lv_at hl 0 rfl) ?_
        refine lv_iload_n hx hb dL_law_573 rfl (lv_at hl 3 rfl) ?_
        refine lv_iconst (v := 1) hx hb dL_law_574 (by decide) ?_
        refine lv_iadd hx hb dL_law_575 ?_
        refine va_sld hx hb hX hbl hbA hW.2.2 (law_in (j := 1) hL h5 (by omega)) dL_law_576 ?_
        refine lv_aload_n hx hb dL_law_577 rfl (lv_at hl 0 rfl) ?_
        refine lv_iload_n hx hb dL_law_578 rfl (lv_at hl 3 rfl) ?_
        refine lv_iconst (v := 2) hx hb dL_law_579 (by decide) ?_
        refine lv_iadd hx hb dL_law_580 ?_
        refine va_sld hx hb hX hbl hbA hW.2.2 (law_in (j := 2) hL h5 (by omega)) dL_law_581 ?_
        refine lv_aload_n hx hb dL_law_582 rfl (lv_at hl 0 rfl) ?_
        refine lv_iload_n hx hb dL_law_583 rfl (lv_at hl 3 rfl) ?_
        refine lv_iconst (v := 3) hx hb dL_law_584 (by decide) ?_
        refine lv_iadd hx hb dL_law_585 ?_
        refine va_sld hx hb hX hbl hbA hW.2.2 (law_in (j := 3) hL h5 (by omega)) dL_law_586 ?_
        refine lv_aload_n hx hb dL_law_587 rfl (lv_at hl 0 rfl) ?_
        refine lv_iload_n hx hb dL_law_588 rfl (lv_at hl 3 rfl) ?_
        refine lv_iconst (v := 4) hx hb dL_law_589 (by decide) ?_
        refine lv_iadd hx hb dL_law_590 ?_
        refine va_sld hx hb hX hbl hbA hW.2.2 (law_in (j := 4) hL h5 (by omega)) dL_law_591 ?_
        refine lawM (As := [.int (xs (nI (5 * k) + 1).toNatClampNeg), .int (xs (nI (5 * k) + 2).toNatClampNeg), .int (xs (nI (5 * k) + 3).toNatClampNeg), .int (xs (nI (5 * k) + 4).toNatClampNeg)]) B F hW kl_L_81 kv_X11_plan rfl (mt_X11_plan e2) rfl (Nat.le_of_ble_eq_true rfl) (Nat.le_of_ble_eq_true rfl) hcs hl.1 rfl (Nat.le_of_ble_eq_true rfl) dL_law_592 (fun H locs hW => ?_)
        refine lv_icmp_eq hx hb dL_law_595 (tgt := 755) (by decide) (fun _ => ?_) (fun hne => absurd rfl hne)
        exact next hc' hm' ad1 ad2 H locs hR F hW hl
      by_cases hc16 : sw = 16
      · refine lv_tableIn hx hb dL_law_32 (by rw [hc16]; decide) (by rw [hc16]; decide) (off := 568) (by rw [hc16]; rfl) (tgt := 600) (by decide) ?_
        obtain ⟨v, hc', hm', e1, e2, hR⟩ := s_16 hc hm (xs (nI (5 * k) + 1).toNatClampNeg) (xs (nI (5 * k) + 2).toNatClampNeg) (xs (nI (5 * k) + 3).toNatClampNeg) hR
        refine lv_aload_n hx hb dL_law_600 rfl (lv_at hl 1 rfl) ?_
        refine lv_aload_n hx hb dL_law_601 rfl (lv_at hl 0 rfl) ?_
        refine lv_iload_n hx hb dL_law_602 rfl (lv_at hl 3 rfl) ?_
        refine lv_iconst (v := 1) hx hb dL_law_603 (by decide) ?_
        refine lv_iadd hx hb dL_law_604 ?_
        refine va_sld hx hb hX hbl hbA hW.2.2 (law_in (j := 1) hL h5 (by omega)) dL_law_605 ?_
        refine lv_aload_n hx hb dL_law_606 rfl (lv_at hl 0 rfl) ?_
        refine lv_iload_n hx hb dL_law_607 rfl (lv_at hl 3 rfl) ?_
        refine lv_iconst (v := 2) hx hb dL_law_608 (by decide) ?_
        refine lv_iadd hx hb dL_law_609 ?_
        refine va_sld hx hb hX hbl hbA hW.2.2 (law_in (j := 2) hL h5 (by omega)) dL_law_610 ?_
        refine lv_aload_n hx hb dL_law_611 rfl (lv_at hl 0 rfl) ?_
        refine lv_iload_n hx hb dL_law_612 rfl (lv_at hl 3 rfl) ?_
        refine lv_iconst (v := 3) hx hb dL_law_613 (by decide) ?_
        refine lv_iadd hx hb dL_law_614 ?_
        refine va_sld hx hb hX hbl hbA hW.2.2 (law_in (j := 3) hL h5 (by omega)) dL_law_615 ?_
        refine lawC (As := [.int (xs (nI (5 * k) + 1).toNatClampNeg), .int (xs (nI (5 * k) + 2).toNatClampNeg), .int (xs (nI (5 * k) + 3).toNatClampNeg)]) B F hW kl_L_82 kv_X10_adopt rfl (mt_X10_adopt e1) rfl (Nat.le_of_ble_eq_true rfl) (Nat.le_of_ble_eq_true rfl) hcs hl.1 rfl (Nat.le_of_ble_eq_true rfl) dL_law_616 (fun H locs hW => ?_)
        refine lv_aload_n hx hb dL_law_619 rfl (lv_at hl 2 rfl) ?_
        refine lv_aload_n hx hb dL_law_620 rfl (lv_at hl 0 rfl) ?_
        refine lv_iload_n hx hb dL_law_621 rfl (lv_at hl 3 rfl) ?_
        refine lv_iconst (v := 1) hx hb dL_law_622 (by decide) ?_
        refine lv_iadd hx hb dL_law_623 ?_
        refine va_sld hx hb hX hbl hbA hW.2.2 (law_in (j := 1) hL h5 (by omega)) dL_law_624 ?_
        refine lv_aload_n hx hb dL_law_625 rfl (lv_at hl 0 rfl) ?_
        refine lv_iload_n hx hb dL_law_626 rfl (lv_at hl 3 rfl) ?_
        refine lv_iconst (v := 2) hx hb dL_law_627 (by decide) ?_
        refine lv_iadd hx hb dL_law_628 ?_
        refine va_sld hx hb hX hbl hbA hW.2.2 (law_in (j := 2) hL h5 (by omega)) dL_law_629 ?_
        refine lv_aload_n hx hb dL_law_630 rfl (lv_at hl 0 rfl) ?_
        refine lv_iload_n hx hb dL_law_631 rfl (lv_at hl 3 rfl) ?_
        refine lv_iconst (v := 3) hx hb dL_law_632 (by decide) ?_
        refine lv_iadd hx hb dL_law_633 ?_
        refine va_sld hx hb hX hbl hbA hW.2.2 (law_in (j := 3) hL h5 (by omega)) dL_law_634 ?_
        refine lawM (As := [.int (xs (nI (5 * k) + 1).toNatClampNeg), .int (xs (nI (5 * k) + 2).toNatClampNeg), .int (xs (nI (5 * k) + 3).toNatClampNeg)]) B F hW kl_L_85 kv_X11_adopt rfl (mt_X11_adopt e2) rfl (Nat.le_of_ble_eq_true rfl) (Nat.le_of_ble_eq_true rfl) hcs hl.1 rfl (Nat.le_of_ble_eq_true rfl) dL_law_635 (fun H locs hW => ?_)
        refine lv_icmp_eq hx hb dL_law_638 (tgt := 755) (by decide) (fun _ => ?_) (fun hne => absurd rfl hne)
        exact next hc' hm' ad1 ad2 H locs hR F hW hl
      by_cases hc17 : sw = 17
      · refine lv_tableIn hx hb dL_law_32 (by rw [hc17]; decide) (by rw [hc17]; decide) (off := 611) (by rw [hc17]; rfl) (tgt := 643) (by decide) ?_
        obtain ⟨v, e1, e2, hR⟩ := s_17 hc hm (xs (nI (5 * k) + 1).toNatClampNeg) hR
        refine lv_aload_n hx hb dL_law_643 rfl (lv_at hl 1 rfl) ?_
        refine lv_aload_n hx hb dL_law_644 rfl (lv_at hl 0 rfl) ?_
        refine lv_iload_n hx hb dL_law_645 rfl (lv_at hl 3 rfl) ?_
        refine lv_iconst (v := 1) hx hb dL_law_646 (by decide) ?_
        refine lv_iadd hx hb dL_law_647 ?_
        refine va_sld hx hb hX hbl hbA hW.2.2 (law_in (j := 1) hL h5 (by omega)) dL_law_648 ?_
        refine lawC (As := [.int (xs (nI (5 * k) + 1).toNatClampNeg)]) B F hW kl_L_86 kv_X10_bound rfl (mt_X10_bound e1) rfl (Nat.le_of_ble_eq_true rfl) (Nat.le_of_ble_eq_true rfl) hcs hl.1 rfl (Nat.le_of_ble_eq_true rfl) dL_law_649 (fun H locs hW => ?_)
        refine lv_aload_n hx hb dL_law_652 rfl (lv_at hl 2 rfl) ?_
        refine lv_aload_n hx hb dL_law_653 rfl (lv_at hl 0 rfl) ?_
        refine lv_iload_n hx hb dL_law_654 rfl (lv_at hl 3 rfl) ?_
        refine lv_iconst (v := 1) hx hb dL_law_655 (by decide) ?_
        refine lv_iadd hx hb dL_law_656 ?_
        refine va_sld hx hb hX hbl hbA hW.2.2 (law_in (j := 1) hL h5 (by omega)) dL_law_657 ?_
        refine lawM (As := [.int (xs (nI (5 * k) + 1).toNatClampNeg)]) B F hW kl_L_89 kv_X11_bound rfl (mt_X11_bound e2) rfl (Nat.le_of_ble_eq_true rfl) (Nat.le_of_ble_eq_true rfl) hcs hl.1 rfl (Nat.le_of_ble_eq_true rfl) dL_law_658 (fun H locs hW => ?_)
        refine lv_icmp_eq hx hb dL_law_661 (tgt := 755) (by decide) (fun _ => ?_) (fun hne => absurd rfl hne)
        exact next hc hm ad1 ad2 H locs hR F hW hl
      by_cases hc18 : sw = 18
      · refine lv_tableIn hx hb dL_law_32 (by rw [hc18]; decide) (by rw [hc18]; decide) (off := 634) (by rw [hc18]; rfl) (tgt := 666) (by decide) ?_
        obtain ⟨v, hc', hm', e1, e2, hR⟩ := s_18 hc hm (xs (nI (5 * k) + 1).toNatClampNeg) (xs (nI (5 * k) + 2).toNatClampNeg) (xs (nI (5 * k) + 3).toNatClampNeg) hR
        refine lv_aload_n hx hb dL_law_666 rfl (lv_at hl 1 rfl) ?_
        refine lv_aload_n hx hb dL_law_667 rfl (lv_at hl 0 rfl) ?_
        refine lv_iload_n hx hb dL_law_668 rfl (lv_at hl 3 rfl) ?_
        refine lv_iconst (v := 1) hx hb dL_law_669 (by decide) ?_
        refine lv_iadd hx hb dL_law_670 ?_
        refine va_sld hx hb hX hbl hbA hW.2.2 (law_in (j := 1) hL h5 (by omega)) dL_law_671 ?_
        refine lv_aload_n hx hb dL_law_672 rfl (lv_at hl 0 rfl) ?_
        refine lv_iload_n hx hb dL_law_673 rfl (lv_at hl 3 rfl) ?_
        refine lv_iconst (v := 2) hx hb dL_law_674 (by decide) ?_
        refine lv_iadd hx hb dL_law_675 ?_
        refine va_sld hx hb hX hbl hbA hW.2.2 (law_in (j := 2) hL h5 (by omega)) dL_law_676 ?_
        refine lv_aload_n hx hb dL_law_677 rfl (lv_at hl 0 rfl) ?_
        refine lv_iload_n hx hb dL_law_678 rfl (lv_at hl 3 rfl) ?_
        refine lv_iconst (v := 3) hx hb dL_law_679 (by decide) ?_
        refine lv_iadd hx hb dL_law_680 ?_
        refine va_sld hx hb hX hbl hbA hW.2.2 (law_in (j := 3) hL h5 (by omega)) dL_law_681 ?_
        refine lawC (As := [.int (xs (nI (5 * k) + 1).toNatClampNeg), .int (xs (nI (5 * k) + 2).toNatClampNeg), .int (xs (nI (5 * k) + 3).toNatClampNeg)]) B F hW kl_L_90 kv_X10_store rfl (mt_X10_store e1) rfl (Nat.le_of_ble_eq_true rfl) (Nat.le_of_ble_eq_true rfl) hcs hl.1 rfl (Nat.le_of_ble_eq_true rfl) dL_law_682 (fun H locs hW => ?_)
        refine lv_aload_n hx hb dL_law_685 rfl (lv_at hl 2 rfl) ?_
        refine lv_aload_n hx hb dL_law_686 rfl (lv_at hl 0 rfl) ?_
        refine lv_iload_n hx hb dL_law_687 rfl (lv_at hl 3 rfl) ?_
        refine lv_iconst (v := 1) hx hb dL_law_688 (by decide) ?_
        refine lv_iadd hx hb dL_law_689 ?_
        refine va_sld hx hb hX hbl hbA hW.2.2 (law_in (j := 1) hL h5 (by omega)) dL_law_690 ?_
        refine lv_aload_n hx hb dL_law_691 rfl (lv_at hl 0 rfl) ?_
        refine lv_iload_n hx hb dL_law_692 rfl (lv_at hl 3 rfl) ?_
        refine lv_iconst (v := 2) hx hb dL_law_693 (by decide) ?_
        refine lv_iadd hx hb dL_law_694 ?_
        refine va_sld hx hb hX hbl hbA hW.2.2 (law_in (j := 2) hL h5 (by omega)) dL_law_695 ?_
        refine lv_aload_n hx hb dL_law_696 rfl (lv_at hl 0 rfl) ?_
        refine lv_iload_n hx hb dL_law_697 rfl (lv_at hl 3 rfl) ?_
        refine lv_iconst (v := 3) hx hb dL_law_698 (by decide) ?_
        refine lv_iadd hx hb dL_law_699 ?_
        refine va_sld hx hb hX hbl hbA hW.2.2 (law_in (j := 3) hL h5 (by omega)) dL_law_700 ?_
        refine lawM (As := [.int (xs (nI (5 * k) + 1).toNatClampNeg), .int (xs (nI (5 * k) + 2).toNatClampNeg), .int (xs (nI (5 * k) + 3).toNatClampNeg)]) B F hW kl_L_93 kv_X11_store rfl (mt_X11_store e2) rfl (Nat.le_of_ble_eq_true rfl) (Nat.le_of_ble_eq_true rfl) hcs hl.1 rfl (Nat.le_of_ble_eq_true rfl) dL_law_701 (fun H locs hW => ?_)
        refine lv_icmp_eq hx hb dL_law_704 (tgt := 755) (by decide) (fun _ => ?_) (fun hne => absurd rfl hne)
        exact next hc' hm' ad1 ad2 H locs hR F hW hl
      by_cases hc19 : sw = 19
      · refine lv_tableIn hx hb dL_law_32 (by rw [hc19]; decide) (by rw [hc19]; decide) (off := 677) (by rw [hc19]; rfl) (tgt := 709) (by decide) ?_
        obtain ⟨v, hc', hm', e1, e2, hR⟩ := s_19 hc hm (xs (nI (5 * k) + 1).toNatClampNeg) hR
        refine lv_aload_n hx hb dL_law_709 rfl (lv_at hl 1 rfl) ?_
        refine lv_aload_n hx hb dL_law_710 rfl (lv_at hl 0 rfl) ?_
        refine lv_iload_n hx hb dL_law_711 rfl (lv_at hl 3 rfl) ?_
        refine lv_iconst (v := 1) hx hb dL_law_712 (by decide) ?_
        refine lv_iadd hx hb dL_law_713 ?_
        refine va_sld hx hb hX hbl hbA hW.2.2 (law_in (j := 1) hL h5 (by omega)) dL_law_714 ?_
        refine lawC (As := [.int (xs (nI (5 * k) + 1).toNatClampNeg)]) B F hW kl_L_94 kv_X10_over rfl (mt_X10_over e1) rfl (Nat.le_of_ble_eq_true rfl) (Nat.le_of_ble_eq_true rfl) hcs hl.1 rfl (Nat.le_of_ble_eq_true rfl) dL_law_715 (fun H locs hW => ?_)
        refine lv_aload_n hx hb dL_law_718 rfl (lv_at hl 2 rfl) ?_
        refine lv_aload_n hx hb dL_law_719 rfl (lv_at hl 0 rfl) ?_
        refine lv_iload_n hx hb dL_law_720 rfl (lv_at hl 3 rfl) ?_
        refine lv_iconst (v := 1) hx hb dL_law_721 (by decide) ?_
        refine lv_iadd hx hb dL_law_722 ?_
        refine va_sld hx hb hX hbl hbA hW.2.2 (law_in (j := 1) hL h5 (by omega)) dL_law_723 ?_
        refine lawM (As := [.int (xs (nI (5 * k) + 1).toNatClampNeg)]) B F hW kl_L_97 kv_X11_over rfl (mt_X11_over e2) rfl (Nat.le_of_ble_eq_true rfl) (Nat.le_of_ble_eq_true rfl) hcs hl.1 rfl (Nat.le_of_ble_eq_true rfl) dL_law_724 (fun H locs hW => ?_)
        refine lv_icmp_eq hx hb dL_law_727 (tgt := 755) (by decide) (fun _ => ?_) (fun hne => absurd rfl hne)
        exact next hc' hm' ad1 ad2 H locs hR F hW hl
      by_cases hc20 : sw = 20
      · refine lv_tableIn hx hb dL_law_32 (by rw [hc20]; decide) (by rw [hc20]; decide) (off := 700) (by rw [hc20]; rfl) (tgt := 732) (by decide) ?_
        obtain ⟨v, hc', hm', e1, e2, hR⟩ := s_20 hc hm (xs (nI (5 * k) + 1).toNatClampNeg) hR
        refine lv_aload_n hx hb dL_law_732 rfl (lv_at hl 1 rfl) ?_
        refine lv_aload_n hx hb dL_law_733 rfl (lv_at hl 0 rfl) ?_
        refine lv_iload_n hx hb dL_law_734 rfl (lv_at hl 3 rfl) ?_
        refine lv_iconst (v := 1) hx hb dL_law_735 (by decide) ?_
        refine lv_iadd hx hb dL_law_736 ?_
        refine va_sld hx hb hX hbl hbA hW.2.2 (law_in (j := 1) hL h5 (by omega)) dL_law_737 ?_
        refine lawC (As := [.int (xs (nI (5 * k) + 1).toNatClampNeg)]) B F hW kl_L_98 kv_X10_count rfl (mt_X10_count e1) rfl (Nat.le_of_ble_eq_true rfl) (Nat.le_of_ble_eq_true rfl) hcs hl.1 rfl (Nat.le_of_ble_eq_true rfl) dL_law_738 (fun H locs hW => ?_)
        refine lv_aload_n hx hb dL_law_741 rfl (lv_at hl 2 rfl) ?_
        refine lv_aload_n hx hb dL_law_742 rfl (lv_at hl 0 rfl) ?_
        refine lv_iload_n hx hb dL_law_743 rfl (lv_at hl 3 rfl) ?_
        refine lv_iconst (v := 1) hx hb dL_law_744 (by decide) ?_
        refine lv_iadd hx hb dL_law_745 ?_
        refine va_sld hx hb hX hbl hbA hW.2.2 (law_in (j := 1) hL h5 (by omega)) dL_law_746 ?_
        refine lawM (As := [.int (xs (nI (5 * k) + 1).toNatClampNeg)]) B F hW kl_L_101 kv_X11_count rfl (mt_X11_count e2) rfl (Nat.le_of_ble_eq_true rfl) (Nat.le_of_ble_eq_true rfl) hcs hl.1 rfl (Nat.le_of_ble_eq_true rfl) dL_law_747 (fun H locs hW => ?_)
        refine lv_icmp_eq hx hb dL_law_750 (tgt := 755) (by decide) (fun _ => ?_) (fun hne => absurd rfl hne)
        exact next hc' hm' ad1 ad2 H locs hR F hW hl
      have q0 := lv_neT (a := 0) hc0 (by decide)
      have q1 := lv_neT (a := 1) hc1 (by decide)
      have q2 := lv_neT (a := 2) hc2 (by decide)
      have q3 := lv_neT (a := 3) hc3 (by decide)
      have q4 := lv_neT (a := 4) hc4 (by decide)
      have q5 := lv_neT (a := 5) hc5 (by decide)
      have q6 := lv_neT (a := 6) hc6 (by decide)
      have q7 := lv_neT (a := 7) hc7 (by decide)
      have q8 := lv_neT (a := 8) hc8 (by decide)
      have q9 := lv_neT (a := 9) hc9 (by decide)
      have q10 := lv_neT (a := 10) hc10 (by decide)
      have q11 := lv_neT (a := 11) hc11 (by decide)
      have q12 := lv_neT (a := 12) hc12 (by decide)
      have q13 := lv_neT (a := 13) hc13 (by decide)
      have q14 := lv_neT (a := 14) hc14 (by decide)
      have q15 := lv_neT (a := 15) hc15 (by decide)
      have q16 := lv_neT (a := 16) hc16 (by decide)
      have q17 := lv_neT (a := 17) hc17 (by decide)
      have q18 := lv_neT (a := 18) hc18 (by decide)
      have q19 := lv_neT (a := 19) hc19 (by decide)
      have q20 := lv_neT (a := 20) hc20 (by decide)
      refine lv_tableOut hx hb dL_law_32 (by omega) (tgt := 755) (by decide) ?_
      exact next hc hm ad1 ad2 H locs hR F hW hl
