/-! What the tables say of each entry (7). -/
theorem tk_244 : tq_244.all (am_okQ am_Tc0 am_Ns0 am_Rs0 am_Zs0 am_cls0 am_T0 tm_244) = true := by decide +kernel
theorem tk_245 : tq_245.all (am_okQ am_Tc0 am_Ns0 am_Rs0 am_Zs0 am_cls0 am_T0 tm_245) = true := by decide +kernel
theorem tk_246 : tq_246.all (am_okQ am_Tc0 am_Ns0 am_Rs0 am_Zs0 am_cls0 am_T0 tm_246) = true := by decide +kernel
theorem tk_247 : tq_247.all (am_okQ am_Tc0 am_Ns0 am_Rs0 am_Zs0 am_cls0 am_T0 tm_247) = true := by decide +kernel
theorem tk_248 : tq_248.all (am_okQ am_Tc0 am_Ns0 am_Rs0 am_Zs0 am_cls0 am_T0 tm_248) = true := by decide +kernel
theorem tk_249 : tq_249.all (am_okQ am_Tc0 am_Ns0 am_Rs0 am_Zs0 am_cls0 am_T0 tm_249) = true := by decide +kernel
theorem tk_250 : tq_250.all (am_okQ am_Tc0 am_Ns0 am_Rs0 am_Zs0 am_cls0 am_T0 tm_250) = true := by decide +kernel
theorem tk_251 : tq_251.all (am_okQ am_Tc0 am_Ns0 am_Rs0 am_Zs0 am_cls0 am_T0 tm_251) = true := by decide +kernel
theorem tk_252 : tq_252.all (am_okQ am_Tc0 am_Ns0 am_Rs0 am_Zs0 am_cls0 am_T0 tm_252) = true := by decide +kernel
theorem tk_253 : tq_253.all (am_okQ am_Tc0 am_Ns0 am_Rs0 am_Zs0 am_cls0 am_T0 tm_253) = true := by decide +kernel
theorem tk_254 : tq_254.all (am_okQ am_Tc0 am_Ns0 am_Rs0 am_Zs0 am_cls0 am_T0 tm_254) = true := by decide +kernel
