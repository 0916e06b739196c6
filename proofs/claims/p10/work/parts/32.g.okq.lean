/-! What the tables say of each entry (6). -/
theorem tk_233 : tq_233.all (am_okQ am_Tc0 am_Ns0 am_Rs0 am_Zs0 am_cls0 am_T0 tm_233) = true := by decide +kernel
theorem tk_234 : tq_234.all (am_okQ am_Tc0 am_Ns0 am_Rs0 am_Zs0 am_cls0 am_T0 tm_234) = true := by decide +kernel
theorem tk_235 : tq_235.all (am_okQ am_Tc0 am_Ns0 am_Rs0 am_Zs0 am_cls0 am_T0 tm_235) = true := by decide +kernel
theorem tk_236 : tq_236.all (am_okQ am_Tc0 am_Ns0 am_Rs0 am_Zs0 am_cls0 am_T0 tm_236) = true := by decide +kernel
theorem tk_237 : tq_237.all (am_okQ am_Tc0 am_Ns0 am_Rs0 am_Zs0 am_cls0 am_T0 tm_237) = true := by decide +kernel
theorem tk_238 : tq_238.all (am_okQ am_Tc0 am_Ns0 am_Rs0 am_Zs0 am_cls0 am_T0 tm_238) = true := by decide +kernel
theorem tk_239 : tq_239.all (am_okQ am_Tc0 am_Ns0 am_Rs0 am_Zs0 am_cls0 am_T0 tm_239) = true := by decide +kernel
theorem tk_240 : tq_240.all (am_okQ am_Tc0 am_Ns0 am_Rs0 am_Zs0 am_cls0 am_T0 tm_240) = true := by decide +kernel
theorem tk_241 : tq_241.all (am_okQ am_Tc0 am_Ns0 am_Rs0 am_Zs0 am_cls0 am_T0 tm_241) = true := by decide +kernel
theorem tk_242 : tq_242.all (am_okQ am_Tc0 am_Ns0 am_Rs0 am_Zs0 am_cls0 am_T0 tm_242) = true := by decide +kernel
theorem tk_243 : tq_243.all (am_okQ am_Tc0 am_Ns0 am_Rs0 am_Zs0 am_cls0 am_T0 tm_243) = true := by decide +kernel
